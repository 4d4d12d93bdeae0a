/-! ===== the making of objects: words, decode rows, rows ===== -/
def ky0 : MethodName := ⟨"RainRead$Fall", "<init>", "()V"⟩
def ky1 : MethodName := ⟨"RainRead$Sheet", "<init>", "()V"⟩
def ky2 : MethodName := ⟨"RainRead$Shower", "<init>", "()V"⟩
def ky3 : MethodName := ⟨"RainRead$TextReader", "<init>", "()V"⟩
def ky4 : MethodName := ⟨"RainRead", "<init>", "()V"⟩
def ky5 : MethodName := ⟨"RainReadModel", "<init>", "()V"⟩
set_option maxRecDepth 100000 in
theorem kw_0 : Cond.instanceMethod objectInit ∈ m_TB := m_TB_of 81 rfl rfl
set_option maxRecDepth 100000 in
theorem kw_1 : Cond.code objectInit ⟨#[0xb1]⟩ 1 none ∈ m_TB := m_TB_of 82 rfl rfl
set_option maxRecDepth 100000 in
theorem kw_2 : Cond.arrayClass .int ∈ m_TB := m_TB_of 133 rfl rfl
set_option maxRecDepth 100000 in
theorem kw_3 : Cond.methodLink "RainRead$Fall" 3 objectInit ∈ m_TB := m_TB_of 139 rfl rfl
set_option maxRecDepth 100000 in
theorem kw_4 : Cond.fieldLink "RainRead$Fall" 9 "RainRead$Fall" "hourOf" "[I" ∈ m_TB := m_TB_of 140 rfl rfl
set_option maxRecDepth 100000 in
theorem kw_5 : Cond.fieldLink "RainRead$Fall" 15 "RainRead$Fall" "crierOf" "[I" ∈ m_TB := m_TB_of 142 rfl rfl
set_option maxRecDepth 100000 in
theorem kw_6 : Cond.fieldLink "RainRead$Fall" 18 "RainRead$Fall" "amountOf" "[I" ∈ m_TB := m_TB_of 144 rfl rfl
set_option maxRecDepth 100000 in
theorem kw_7 : Cond.fieldLink "RainRead$Fall" 21 "RainRead$Fall" "cameTo" "[I" ∈ m_TB := m_TB_of 146 rfl rfl
set_option maxRecDepth 100000 in
theorem kw_8 : Cond.fieldLink "RainRead$Fall" 24 "RainRead$Fall" "wetOf" "[I" ∈ m_TB := m_TB_of 148 rfl rfl
set_option maxRecDepth 100000 in
theorem kw_9 : Cond.methodLink "RainRead$Sheet" 3 objectInit ∈ m_TB := m_TB_of 195 rfl rfl
set_option maxRecDepth 100000 in
theorem kw_10 : Cond.fieldLink "RainRead$Sheet" 9 "RainRead$Sheet" "cells" "[I" ∈ m_TB := m_TB_of 196 rfl rfl
set_option maxRecDepth 100000 in
theorem kw_11 : Cond.methodLink "RainRead$Shower" 3 objectInit ∈ m_TB := m_TB_of 88 rfl rfl
set_option maxRecDepth 100000 in
theorem kw_12 : Cond.fieldLink "RainRead$Shower" 9 "RainRead$Shower" "dropsOf" "[I" ∈ m_TB := m_TB_of 97 rfl rfl
set_option maxRecDepth 100000 in
theorem kw_13 : Cond.fieldLink "RainRead$Shower" 15 "RainRead$Shower" "fieldOf" "[I" ∈ m_TB := m_TB_of 101 rfl rfl
set_option maxRecDepth 100000 in
theorem kw_14 : Cond.fieldLink "RainRead$Shower" 18 "RainRead$Shower" "kindOf" "[I" ∈ m_TB := m_TB_of 105 rfl rfl
set_option maxRecDepth 100000 in
theorem kw_15 : Cond.fieldLink "RainRead$Shower" 21 "RainRead$Shower" "paceOf" "[I" ∈ m_TB := m_TB_of 108 rfl rfl
set_option maxRecDepth 100000 in
theorem kw_16 : Cond.fieldLink "RainRead$Shower" 24 "RainRead$Shower" "startOf" "[I" ∈ m_TB := m_TB_of 111 rfl rfl
set_option maxRecDepth 100000 in
theorem kw_17 : Cond.fieldLink "RainRead$Shower" 27 "RainRead$Shower" "coughsAt" "[I" ∈ m_TB := m_TB_of 114 rfl rfl
set_option maxRecDepth 100000 in
theorem kw_18 : Cond.methodLink "RainRead$TextReader" 3 objectInit ∈ m_TB := m_TB_of 178 rfl rfl
set_option maxRecDepth 100000 in
theorem kw_19 : Cond.fieldLink "RainRead$TextReader" 9 "RainRead$TextReader" "codes" "[I" ∈ m_TB := m_TB_of 179 rfl rfl
set_option maxRecDepth 100000 in
theorem kw_20 : Cond.methodLink "RainRead" 3 objectInit ∈ m_TB := m_TB_of 80 rfl rfl
set_option maxRecDepth 100000 in
theorem kw_21 : Cond.classLink "RainRead" 9 "RainRead$Shower" ∈ m_TB := m_TB_of 83 rfl rfl
set_option maxRecDepth 100000 in
theorem kw_22 : Cond.instantiable "RainRead$Shower" 8 ∈ m_TB := m_TB_of 84 rfl rfl
set_option maxRecDepth 100000 in
theorem kw_23 : Cond.initialized "RainRead$Shower" ∈ m_TB := m_TB_of 66 rfl rfl
set_option maxRecDepth 100000 in
theorem kw_24 : Cond.code ky2 prog_4_method_1_code 1 none ∈ m_TB := m_TB_of 87 rfl rfl
set_option maxRecDepth 100000 in
theorem kw_25 : Cond.instanceMethod ky2 ∈ m_TB := m_TB_of 86 rfl rfl
set_option maxRecDepth 100000 in
theorem kw_26 : Cond.fieldLink "RainRead" 12 "RainRead" "now" "LRainRead$Shower;" ∈ m_TB := m_TB_of 213 rfl rfl
set_option maxRecDepth 100000 in
theorem kw_27 : Cond.fieldLink "RainRead" 18 "RainRead" "trial" "LRainRead$Shower;" ∈ m_TB := m_TB_of 214 rfl rfl
set_option maxRecDepth 100000 in
theorem kw_28 : Cond.classLink "RainRead" 21 "RainRead$Fall" ∈ m_TB := m_TB_of 134 rfl rfl
set_option maxRecDepth 100000 in
theorem kw_29 : Cond.instantiable "RainRead$Fall" 8 ∈ m_TB := m_TB_of 135 rfl rfl
set_option maxRecDepth 100000 in
theorem kw_30 : Cond.initialized "RainRead$Fall" ∈ m_TB := m_TB_of 67 rfl rfl
set_option maxRecDepth 100000 in
theorem kw_31 : Cond.code ky0 prog_2_method_1_code 1 none ∈ m_TB := m_TB_of 138 rfl rfl
set_option maxRecDepth 100000 in
theorem kw_32 : Cond.instanceMethod ky0 ∈ m_TB := m_TB_of 137 rfl rfl
set_option maxRecDepth 100000 in
theorem kw_33 : Cond.fieldLink "RainRead" 24 "RainRead" "fall" "LRainRead$Fall;" ∈ m_TB := m_TB_of 215 rfl rfl
set_option maxRecDepth 100000 in
theorem kw_34 : Cond.classLink "RainRead" 28 "RainRead$TextReader" ∈ m_TB := m_TB_of 173 rfl rfl
set_option maxRecDepth 100000 in
theorem kw_35 : Cond.instantiable "RainRead$TextReader" 3 ∈ m_TB := m_TB_of 174 rfl rfl
set_option maxRecDepth 100000 in
theorem kw_36 : Cond.initialized "RainRead$TextReader" ∈ m_TB := m_TB_of 68 rfl rfl
set_option maxRecDepth 100000 in
theorem kw_37 : Cond.code ky3 prog_5_method_1_code 1 none ∈ m_TB := m_TB_of 177 rfl rfl
set_option maxRecDepth 100000 in
theorem kw_38 : Cond.instanceMethod ky3 ∈ m_TB := m_TB_of 176 rfl rfl
set_option maxRecDepth 100000 in
theorem kw_39 : Cond.fieldLink "RainRead" 31 "RainRead" "reader" "LRainRead$TextReader;" ∈ m_TB := m_TB_of 216 rfl rfl
set_option maxRecDepth 100000 in
theorem kw_40 : Cond.classLink "RainRead" 35 "RainRead$Sheet" ∈ m_TB := m_TB_of 189 rfl rfl
set_option maxRecDepth 100000 in
theorem kw_41 : Cond.fieldLink "RainRead" 37 "RainRead" "sheets" "[LRainRead$Sheet;" ∈ m_TB := m_TB_of 217 rfl rfl
set_option maxRecDepth 100000 in
theorem kw_42 : Cond.fieldLink "RainRead" 41 "RainRead" "readingField" "[I" ∈ m_TB := m_TB_of 218 rfl rfl
set_option maxRecDepth 100000 in
theorem kw_43 : Cond.fieldLink "RainRead" 45 "RainRead" "readingWet" "[I" ∈ m_TB := m_TB_of 219 rfl rfl
set_option maxRecDepth 100000 in
theorem kw_44 : Cond.instantiable "RainRead$Sheet" 4 ∈ m_TB := m_TB_of 191 rfl rfl
set_option maxRecDepth 100000 in
theorem kw_45 : Cond.initialized "RainRead$Sheet" ∈ m_TB := m_TB_of 69 rfl rfl
set_option maxRecDepth 100000 in
theorem kw_46 : Cond.code ky1 prog_3_method_1_code 1 none ∈ m_TB := m_TB_of 194 rfl rfl
set_option maxRecDepth 100000 in
theorem kw_47 : Cond.instanceMethod ky1 ∈ m_TB := m_TB_of 193 rfl rfl
set_option maxRecDepth 100000 in
theorem kw_48 : Cond.methodLink "RainReadModel" 1 objectInit ∈ m_TB := m_TB_of 626 rfl rfl
set_option maxRecDepth 100000 in
theorem kw_49 : Cond.fieldLink "RainReadModel" 7 "RainReadModel" "dropsOf" "[I" ∈ m_TB := m_TB_of 630 rfl rfl
set_option maxRecDepth 100000 in
theorem kw_50 : Cond.fieldLink "RainReadModel" 13 "RainReadModel" "fieldOf" "[I" ∈ m_TB := m_TB_of 631 rfl rfl
set_option maxRecDepth 100000 in
theorem kw_51 : Cond.fieldLink "RainReadModel" 16 "RainReadModel" "kindOf" "[I" ∈ m_TB := m_TB_of 632 rfl rfl
set_option maxRecDepth 100000 in
theorem kw_52 : Cond.fieldLink "RainReadModel" 19 "RainReadModel" "paceOf" "[I" ∈ m_TB := m_TB_of 633 rfl rfl
set_option maxRecDepth 100000 in
theorem kw_53 : Cond.fieldLink "RainReadModel" 22 "RainReadModel" "startOf" "[I" ∈ m_TB := m_TB_of 634 rfl rfl
set_option maxRecDepth 100000 in
theorem kw_54 : Cond.fieldLink "RainReadModel" 25 "RainReadModel" "coughsOf" "[I" ∈ m_TB := m_TB_of 635 rfl rfl
set_option maxRecDepth 100000 in
theorem kw_55 : Cond.fieldLink "RainReadModel" 28 "RainReadModel" "readDrops" "[I" ∈ m_TB := m_TB_of 639 rfl rfl
set_option maxRecDepth 100000 in
theorem kw_56 : Cond.fieldLink "RainReadModel" 31 "RainReadModel" "readField" "[I" ∈ m_TB := m_TB_of 640 rfl rfl
set_option maxRecDepth 100000 in
theorem kw_57 : Cond.fieldLink "RainReadModel" 34 "RainReadModel" "readKind" "[I" ∈ m_TB := m_TB_of 641 rfl rfl
set_option maxRecDepth 100000 in
theorem kw_58 : Cond.fieldLink "RainReadModel" 37 "RainReadModel" "readPace" "[I" ∈ m_TB := m_TB_of 642 rfl rfl
set_option maxRecDepth 100000 in
theorem kw_59 : Cond.fieldLink "RainReadModel" 40 "RainReadModel" "readStart" "[I" ∈ m_TB := m_TB_of 643 rfl rfl
set_option maxRecDepth 100000 in
theorem kw_60 : Cond.fieldLink "RainReadModel" 43 "RainReadModel" "readHour" "[I" ∈ m_TB := m_TB_of 644 rfl rfl
set_option maxRecDepth 100000 in
theorem kw_61 : Cond.fieldLink "RainReadModel" 46 "RainReadModel" "readBy" "[I" ∈ m_TB := m_TB_of 645 rfl rfl
set_option maxRecDepth 100000 in
theorem kw_62 : Cond.fieldLink "RainReadModel" 49 "RainReadModel" "fallsOf" "[I" ∈ m_TB := m_TB_of 646 rfl rfl
set_option maxRecDepth 100000 in
theorem kw_63 : Cond.fieldLink "RainReadModel" 52 "RainReadModel" "comesTo" "[I" ∈ m_TB := m_TB_of 647 rfl rfl
set_option maxRecDepth 100000 in
theorem kw_64 : Cond.fieldLink "RainReadModel" 55 "RainReadModel" "wetOf" "[I" ∈ m_TB := m_TB_of 648 rfl rfl
set_option maxRecDepth 100000 in
theorem kw_65 : Cond.fieldLink "RainReadModel" 58 "RainReadModel" "hadDrops" "[I" ∈ m_TB := m_TB_of 650 rfl rfl
set_option maxRecDepth 100000 in
theorem kw_66 : Cond.fieldLink "RainReadModel" 61 "RainReadModel" "hadStart" "[I" ∈ m_TB := m_TB_of 651 rfl rfl
set_option maxRecDepth 100000 in
theorem kw_67 : Cond.fieldLink "RainReadModel" 64 "RainReadModel" "hadCoughs" "[I" ∈ m_TB := m_TB_of 652 rfl rfl
set_option maxRecDepth 100000 in
theorem kw_68 : Cond.fieldLink "RainReadModel" 67 "RainReadModel" "readingOf" "[I" ∈ m_TB := m_TB_of 654 rfl rfl
set_option maxRecDepth 100000 in
theorem kw_69 : Cond.fieldLink "RainReadModel" 70 "RainReadModel" "readingIs" "[I" ∈ m_TB := m_TB_of 655 rfl rfl
set_option maxRecDepth 100000 in
theorem kw_70 : Cond.fieldLink "RainReadModel" 73 "RainReadModel" "sheetSize" "[I" ∈ m_TB := m_TB_of 656 rfl rfl
set_option maxRecDepth 100000 in
theorem kw_71 : Cond.fieldLink "RainReadModel" 76 "RainReadModel" "sheetLane" "[I" ∈ m_TB := m_TB_of 657 rfl rfl
set_option maxRecDepth 100000 in
theorem kw_72 : Cond.fieldLink "RainReadModel" 79 "RainReadModel" "sheet" "[I" ∈ m_TB := m_TB_of 658 rfl rfl
set_option maxRecDepth 100000 in
theorem kw_73 : Cond.fieldLink "RainReadModel" 82 "RainReadModel" "hands" "[I" ∈ m_TB := m_TB_of 659 rfl rfl
theorem kd_X0_0 : decode prog_2_method_1_code 0 = .ok (.aload_n 0, 1) := by decide +kernel
theorem kd_X0_1 : decode prog_2_method_1_code 1 = .ok (.invokespecial 3, 3) := by decide +kernel
theorem kd_X0_4 : decode prog_2_method_1_code 4 = .ok (.aload_n 0, 1) := by decide +kernel
theorem kd_X0_5 : decode prog_2_method_1_code 5 = .ok (.bipush 6, 2) := by decide +kernel
theorem kd_X0_7 : decode prog_2_method_1_code 7 = .ok (.newarray .int, 2) := by decide +kernel
theorem kd_X0_9 : decode prog_2_method_1_code 9 = .ok (.putfield 9, 3) := by decide +kernel
theorem kd_X0_12 : decode prog_2_method_1_code 12 = .ok (.aload_n 0, 1) := by decide +kernel
theorem kd_X0_13 : decode prog_2_method_1_code 13 = .ok (.bipush 6, 2) := by decide +kernel
theorem kd_X0_15 : decode prog_2_method_1_code 15 = .ok (.newarray .int, 2) := by decide +kernel
theorem kd_X0_17 : decode prog_2_method_1_code 17 = .ok (.putfield 15, 3) := by decide +kernel
theorem kd_X0_20 : decode prog_2_method_1_code 20 = .ok (.aload_n 0, 1) := by decide +kernel
theorem kd_X0_21 : decode prog_2_method_1_code 21 = .ok (.bipush 6, 2) := by decide +kernel
theorem kd_X0_23 : decode prog_2_method_1_code 23 = .ok (.newarray .int, 2) := by decide +kernel
theorem kd_X0_25 : decode prog_2_method_1_code 25 = .ok (.putfield 18, 3) := by decide +kernel
theorem kd_X0_28 : decode prog_2_method_1_code 28 = .ok (.aload_n 0, 1) := by decide +kernel
theorem kd_X0_29 : decode prog_2_method_1_code 29 = .ok (.bipush 24, 2) := by decide +kernel
theorem kd_X0_31 : decode prog_2_method_1_code 31 = .ok (.newarray .int, 2) := by decide +kernel
theorem kd_X0_33 : decode prog_2_method_1_code 33 = .ok (.putfield 21, 3) := by decide +kernel
theorem kd_X0_36 : decode prog_2_method_1_code 36 = .ok (.aload_n 0, 1) := by decide +kernel
theorem kd_X0_37 : decode prog_2_method_1_code 37 = .ok (.iconst 4, 1) := by decide +kernel
theorem kd_X0_38 : decode prog_2_method_1_code 38 = .ok (.newarray .int, 2) := by decide +kernel
theorem kd_X0_40 : decode prog_2_method_1_code 40 = .ok (.putfield 24, 3) := by decide +kernel
theorem kd_X0_43 : decode prog_2_method_1_code 43 = .ok (.return_, 1) := by decide +kernel
theorem kd_X1_0 : decode prog_3_method_1_code 0 = .ok (.aload_n 0, 1) := by decide +kernel
theorem kd_X1_1 : decode prog_3_method_1_code 1 = .ok (.invokespecial 3, 3) := by decide +kernel
theorem kd_X1_4 : decode prog_3_method_1_code 4 = .ok (.aload_n 0, 1) := by decide +kernel
theorem kd_X1_5 : decode prog_3_method_1_code 5 = .ok (.bipush 60, 2) := by decide +kernel
theorem kd_X1_7 : decode prog_3_method_1_code 7 = .ok (.newarray .int, 2) := by decide +kernel
theorem kd_X1_9 : decode prog_3_method_1_code 9 = .ok (.putfield 9, 3) := by decide +kernel
theorem kd_X1_12 : decode prog_3_method_1_code 12 = .ok (.return_, 1) := by decide +kernel
theorem kd_X2_0 : decode prog_4_method_1_code 0 = .ok (.aload_n 0, 1) := by decide +kernel
theorem kd_X2_1 : decode prog_4_method_1_code 1 = .ok (.invokespecial 3, 3) := by decide +kernel
theorem kd_X2_4 : decode prog_4_method_1_code 4 = .ok (.aload_n 0, 1) := by decide +kernel
theorem kd_X2_5 : decode prog_4_method_1_code 5 = .ok (.bipush 6, 2) := by decide +kernel
theorem kd_X2_7 : decode prog_4_method_1_code 7 = .ok (.newarray .int, 2) := by decide +kernel
theorem kd_X2_9 : decode prog_4_method_1_code 9 = .ok (.putfield 9, 3) := by decide +kernel
theorem kd_X2_12 : decode prog_4_method_1_code 12 = .ok (.aload_n 0, 1) := by decide +kernel
theorem kd_X2_13 : decode prog_4_method_1_code 13 = .ok (.bipush 6, 2) := by decide +kernel
theorem kd_X2_15 : decode prog_4_method_1_code 15 = .ok (.newarray .int, 2) := by decide +kernel
theorem kd_X2_17 : decode prog_4_method_1_code 17 = .ok (.putfield 15, 3) := by decide +kernel
theorem kd_X2_20 : decode prog_4_method_1_code 20 = .ok (.aload_n 0, 1) := by decide +kernel
theorem kd_X2_21 : decode prog_4_method_1_code 21 = .ok (.iconst 3, 1) := by decide +kernel
theorem kd_X2_22 : decode prog_4_method_1_code 22 = .ok (.newarray .int, 2) := by decide +kernel
theorem kd_X2_24 : decode prog_4_method_1_code 24 = .ok (.putfield 18, 3) := by decide +kernel
theorem kd_X2_27 : decode prog_4_method_1_code 27 = .ok (.aload_n 0, 1) := by decide +kernel
theorem kd_X2_28 : decode prog_4_method_1_code 28 = .ok (.iconst 3, 1) := by decide +kernel
theorem kd_X2_29 : decode prog_4_method_1_code 29 = .ok (.newarray .int, 2) := by decide +kernel
theorem kd_X2_31 : decode prog_4_method_1_code 31 = .ok (.putfield 21, 3) := by decide +kernel
theorem kd_X2_34 : decode prog_4_method_1_code 34 = .ok (.aload_n 0, 1) := by decide +kernel
theorem kd_X2_35 : decode prog_4_method_1_code 35 = .ok (.iconst 3, 1) := by decide +kernel
theorem kd_X2_36 : decode prog_4_method_1_code 36 = .ok (.newarray .int, 2) := by decide +kernel
theorem kd_X2_38 : decode prog_4_method_1_code 38 = .ok (.putfield 24, 3) := by decide +kernel
theorem kd_X2_41 : decode prog_4_method_1_code 41 = .ok (.aload_n 0, 1) := by decide +kernel
theorem kd_X2_42 : decode prog_4_method_1_code 42 = .ok (.bipush 6, 2) := by decide +kernel
theorem kd_X2_44 : decode prog_4_method_1_code 44 = .ok (.newarray .int, 2) := by decide +kernel
theorem kd_X2_46 : decode prog_4_method_1_code 46 = .ok (.putfield 27, 3) := by decide +kernel
theorem kd_X2_49 : decode prog_4_method_1_code 49 = .ok (.return_, 1) := by decide +kernel
theorem kd_X3_0 : decode prog_5_method_1_code 0 = .ok (.aload_n 0, 1) := by decide +kernel
theorem kd_X3_1 : decode prog_5_method_1_code 1 = .ok (.invokespecial 3, 3) := by decide +kernel
theorem kd_X3_4 : decode prog_5_method_1_code 4 = .ok (.aload_n 0, 1) := by decide +kernel
theorem kd_X3_5 : decode prog_5_method_1_code 5 = .ok (.bipush 60, 2) := by decide +kernel
theorem kd_X3_7 : decode prog_5_method_1_code 7 = .ok (.newarray .int, 2) := by decide +kernel
theorem kd_X3_9 : decode prog_5_method_1_code 9 = .ok (.putfield 9, 3) := by decide +kernel
theorem kd_X3_12 : decode prog_5_method_1_code 12 = .ok (.return_, 1) := by decide +kernel
theorem kd_X4_0 : decode prog_1_method_1_code 0 = .ok (.aload_n 0, 1) := by decide +kernel
theorem kd_X4_1 : decode prog_1_method_1_code 1 = .ok (.invokespecial 3, 3) := by decide +kernel
theorem kd_X4_4 : decode prog_1_method_1_code 4 = .ok (.aload_n 0, 1) := by decide +kernel
theorem kd_X4_5 : decode prog_1_method_1_code 5 = .ok (.new 9, 3) := by decide +kernel
theorem kd_X4_8 : decode prog_1_method_1_code 8 = .ok (.dup, 1) := by decide +kernel
theorem kd_X4_9 : decode prog_1_method_1_code 9 = .ok (.invokespecial 11, 3) := by decide +kernel
theorem kd_X4_12 : decode prog_1_method_1_code 12 = .ok (.putfield 12, 3) := by decide +kernel
theorem kd_X4_15 : decode prog_1_method_1_code 15 = .ok (.aload_n 0, 1) := by decide +kernel
theorem kd_X4_16 : decode prog_1_method_1_code 16 = .ok (.new 9, 3) := by decide +kernel
theorem kd_X4_19 : decode prog_1_method_1_code 19 = .ok (.dup, 1) := by decide +kernel
theorem kd_X4_20 : decode prog_1_method_1_code 20 = .ok (.invokespecial 11, 3) := by decide +kernel
theorem kd_X4_23 : decode prog_1_method_1_code 23 = .ok (.putfield 18, 3) := by decide +kernel
theorem kd_X4_26 : decode prog_1_method_1_code 26 = .ok (.aload_n 0, 1) := by decide +kernel
theorem kd_X4_27 : decode prog_1_method_1_code 27 = .ok (.new 21, 3) := by decide +kernel
theorem kd_X4_30 : decode prog_1_method_1_code 30 = .ok (.dup, 1) := by decide +kernel
theorem kd_X4_31 : decode prog_1_method_1_code 31 = .ok (.invokespecial 23, 3) := by decide +kernel
theorem kd_X4_34 : decode prog_1_method_1_code 34 = .ok (.putfield 24, 3) := by decide +kernel
theorem kd_X4_37 : decode prog_1_method_1_code 37 = .ok (.aload_n 0, 1) := by decide +kernel
theorem kd_X4_38 : decode prog_1_method_1_code 38 = .ok (.new 28, 3) := by decide +kernel
theorem kd_X4_41 : decode prog_1_method_1_code 41 = .ok (.dup, 1) := by decide +kernel
theorem kd_X4_42 : decode prog_1_method_1_code 42 = .ok (.invokespecial 30, 3) := by decide +kernel
theorem kd_X4_45 : decode prog_1_method_1_code 45 = .ok (.putfield 31, 3) := by decide +kernel
theorem kd_X4_48 : decode prog_1_method_1_code 48 = .ok (.aload_n 0, 1) := by decide +kernel
theorem kd_X4_49 : decode prog_1_method_1_code 49 = .ok (.iconst 4, 1) := by decide +kernel
theorem kd_X4_50 : decode prog_1_method_1_code 50 = .ok (.anewarray 35, 3) := by decide +kernel
theorem kd_X4_53 : decode prog_1_method_1_code 53 = .ok (.putfield 37, 3) := by decide +kernel
theorem kd_X4_56 : decode prog_1_method_1_code 56 = .ok (.aload_n 0, 1) := by decide +kernel
theorem kd_X4_57 : decode prog_1_method_1_code 57 = .ok (.bipush 8, 2) := by decide +kernel
theorem kd_X4_59 : decode prog_1_method_1_code 59 = .ok (.newarray .int, 2) := by decide +kernel
theorem kd_X4_61 : decode prog_1_method_1_code 61 = .ok (.putfield 41, 3) := by decide +kernel
theorem kd_X4_64 : decode prog_1_method_1_code 64 = .ok (.aload_n 0, 1) := by decide +kernel
theorem kd_X4_65 : decode prog_1_method_1_code 65 = .ok (.bipush 8, 2) := by decide +kernel
theorem kd_X4_67 : decode prog_1_method_1_code 67 = .ok (.newarray .int, 2) := by decide +kernel
theorem kd_X4_69 : decode prog_1_method_1_code 69 = .ok (.putfield 45, 3) := by decide +kernel
theorem kd_X4_72 : decode prog_1_method_1_code 72 = .ok (.iconst 0, 1) := by decide +kernel
theorem kd_X4_73 : decode prog_1_method_1_code 73 = .ok (.istore_n 1, 1) := by decide +kernel
theorem kd_X4_74 : decode prog_1_method_1_code 74 = .ok (.iload_n 1, 1) := by decide +kernel
theorem kd_X4_75 : decode prog_1_method_1_code 75 = .ok (.iconst 4, 1) := by decide +kernel
theorem kd_X4_76 : decode prog_1_method_1_code 76 = .ok (.if_icmp .ge 22, 3) := by decide +kernel
theorem kd_X4_79 : decode prog_1_method_1_code 79 = .ok (.aload_n 0, 1) := by decide +kernel
theorem kd_X4_80 : decode prog_1_method_1_code 80 = .ok (.getfield 37, 3) := by decide +kernel
theorem kd_X4_83 : decode prog_1_method_1_code 83 = .ok (.iload_n 1, 1) := by decide +kernel
theorem kd_X4_84 : decode prog_1_method_1_code 84 = .ok (.new 35, 3) := by decide +kernel
theorem kd_X4_87 : decode prog_1_method_1_code 87 = .ok (.dup, 1) := by decide +kernel
theorem kd_X4_88 : decode prog_1_method_1_code 88 = .ok (.invokespecial 48, 3) := by decide +kernel
theorem kd_X4_91 : decode prog_1_method_1_code 91 = .ok (.aastore, 1) := by decide +kernel
theorem kd_X4_92 : decode prog_1_method_1_code 92 = .ok (.iinc 1 1, 3) := by decide +kernel
theorem kd_X4_95 : decode prog_1_method_1_code 95 = .ok (.goto (-21), 3) := by decide +kernel
theorem kd_X4_98 : decode prog_1_method_1_code 98 = .ok (.return_, 1) := by decide +kernel
theorem kd_X5_0 : decode prog_7_method_1_code 0 = .ok (.aload_n 0, 1) := by decide +kernel
theorem kd_X5_1 : decode prog_7_method_1_code 1 = .ok (.invokespecial 1, 3) := by decide +kernel
theorem kd_X5_4 : decode prog_7_method_1_code 4 = .ok (.aload_n 0, 1) := by decide +kernel
theorem kd_X5_5 : decode prog_7_method_1_code 5 = .ok (.bipush 6, 2) := by decide +kernel
theorem kd_X5_7 : decode prog_7_method_1_code 7 = .ok (.newarray .int, 2) := by decide +kernel
theorem kd_X5_9 : decode prog_7_method_1_code 9 = .ok (.putfield 7, 3) := by decide +kernel
theorem kd_X5_12 : decode prog_7_method_1_code 12 = .ok (.aload_n 0, 1) := by decide +kernel
theorem kd_X5_13 : decode prog_7_method_1_code 13 = .ok (.bipush 6, 2) := by decide +kernel
theorem kd_X5_15 : decode prog_7_method_1_code 15 = .ok (.newarray .int, 2) := by decide +kernel
theorem kd_X5_17 : decode prog_7_method_1_code 17 = .ok (.putfield 13, 3) := by decide +kernel
theorem kd_X5_20 : decode prog_7_method_1_code 20 = .ok (.aload_n 0, 1) := by decide +kernel
theorem kd_X5_21 : decode prog_7_method_1_code 21 = .ok (.iconst 3, 1) := by decide +kernel
theorem kd_X5_22 : decode prog_7_method_1_code 22 = .ok (.newarray .int, 2) := by decide +kernel
theorem kd_X5_24 : decode prog_7_method_1_code 24 = .ok (.putfield 16, 3) := by decide +kernel
theorem kd_X5_27 : decode prog_7_method_1_code 27 = .ok (.aload_n 0, 1) := by decide +kernel
theorem kd_X5_28 : decode prog_7_method_1_code 28 = .ok (.iconst 3, 1) := by decide +kernel
theorem kd_X5_29 : decode prog_7_method_1_code 29 = .ok (.newarray .int, 2) := by decide +kernel
theorem kd_X5_31 : decode prog_7_method_1_code 31 = .ok (.putfield 19, 3) := by decide +kernel
theorem kd_X5_34 : decode prog_7_method_1_code 34 = .ok (.aload_n 0, 1) := by decide +kernel
theorem kd_X5_35 : decode prog_7_method_1_code 35 = .ok (.iconst 3, 1) := by decide +kernel
theorem kd_X5_36 : decode prog_7_method_1_code 36 = .ok (.newarray .int, 2) := by decide +kernel
theorem kd_X5_38 : decode prog_7_method_1_code 38 = .ok (.putfield 22, 3) := by decide +kernel
theorem kd_X5_41 : decode prog_7_method_1_code 41 = .ok (.aload_n 0, 1) := by decide +kernel
theorem kd_X5_42 : decode prog_7_method_1_code 42 = .ok (.iconst 4, 1) := by decide +kernel
theorem kd_X5_43 : decode prog_7_method_1_code 43 = .ok (.newarray .int, 2) := by decide +kernel
theorem kd_X5_45 : decode prog_7_method_1_code 45 = .ok (.putfield 25, 3) := by decide +kernel
theorem kd_X5_48 : decode prog_7_method_1_code 48 = .ok (.aload_n 0, 1) := by decide +kernel
theorem kd_X5_49 : decode prog_7_method_1_code 49 = .ok (.bipush 6, 2) := by decide +kernel
theorem kd_X5_51 : decode prog_7_method_1_code 51 = .ok (.newarray .int, 2) := by decide +kernel
theorem kd_X5_53 : decode prog_7_method_1_code 53 = .ok (.putfield 28, 3) := by decide +kernel
theorem kd_X5_56 : decode prog_7_method_1_code 56 = .ok (.aload_n 0, 1) := by decide +kernel
theorem kd_X5_57 : decode prog_7_method_1_code 57 = .ok (.bipush 6, 2) := by decide +kernel
theorem kd_X5_59 : decode prog_7_method_1_code 59 = .ok (.newarray .int, 2) := by decide +kernel
theorem kd_X5_61 : decode prog_7_method_1_code 61 = .ok (.putfield 31, 3) := by decide +kernel
theorem kd_X5_64 : decode prog_7_method_1_code 64 = .ok (.aload_n 0, 1) := by decide +kernel
theorem kd_X5_65 : decode prog_7_method_1_code 65 = .ok (.iconst 3, 1) := by decide +kernel
theorem kd_X5_66 : decode prog_7_method_1_code 66 = .ok (.newarray .int, 2) := by decide +kernel
theorem kd_X5_68 : decode prog_7_method_1_code 68 = .ok (.putfield 34, 3) := by decide +kernel
theorem kd_X5_71 : decode prog_7_method_1_code 71 = .ok (.aload_n 0, 1) := by decide +kernel
theorem kd_X5_72 : decode prog_7_method_1_code 72 = .ok (.iconst 3, 1) := by decide +kernel
theorem kd_X5_73 : decode prog_7_method_1_code 73 = .ok (.newarray .int, 2) := by decide +kernel
theorem kd_X5_75 : decode prog_7_method_1_code 75 = .ok (.putfield 37, 3) := by decide +kernel
theorem kd_X5_78 : decode prog_7_method_1_code 78 = .ok (.aload_n 0, 1) := by decide +kernel
theorem kd_X5_79 : decode prog_7_method_1_code 79 = .ok (.iconst 3, 1) := by decide +kernel
theorem kd_X5_80 : decode prog_7_method_1_code 80 = .ok (.newarray .int, 2) := by decide +kernel
theorem kd_X5_82 : decode prog_7_method_1_code 82 = .ok (.putfield 40, 3) := by decide +kernel
theorem kd_X5_85 : decode prog_7_method_1_code 85 = .ok (.aload_n 0, 1) := by decide +kernel
theorem kd_X5_86 : decode prog_7_method_1_code 86 = .ok (.bipush 6, 2) := by decide +kernel
theorem kd_X5_88 : decode prog_7_method_1_code 88 = .ok (.newarray .int, 2) := by decide +kernel
theorem kd_X5_90 : decode prog_7_method_1_code 90 = .ok (.putfield 43, 3) := by decide +kernel
theorem kd_X5_93 : decode prog_7_method_1_code 93 = .ok (.aload_n 0, 1) := by decide +kernel
theorem kd_X5_94 : decode prog_7_method_1_code 94 = .ok (.bipush 6, 2) := by decide +kernel
theorem kd_X5_96 : decode prog_7_method_1_code 96 = .ok (.newarray .int, 2) := by decide +kernel
theorem kd_X5_98 : decode prog_7_method_1_code 98 = .ok (.putfield 46, 3) := by decide +kernel
theorem kd_X5_101 : decode prog_7_method_1_code 101 = .ok (.aload_n 0, 1) := by decide +kernel
theorem kd_X5_102 : decode prog_7_method_1_code 102 = .ok (.bipush 6, 2) := by decide +kernel
theorem kd_X5_104 : decode prog_7_method_1_code 104 = .ok (.newarray .int, 2) := by decide +kernel
theorem kd_X5_106 : decode prog_7_method_1_code 106 = .ok (.putfield 49, 3) := by decide +kernel
theorem kd_X5_109 : decode prog_7_method_1_code 109 = .ok (.aload_n 0, 1) := by decide +kernel
theorem kd_X5_110 : decode prog_7_method_1_code 110 = .ok (.bipush 24, 2) := by decide +kernel
theorem kd_X5_112 : decode prog_7_method_1_code 112 = .ok (.newarray .int, 2) := by decide +kernel
theorem kd_X5_114 : decode prog_7_method_1_code 114 = .ok (.putfield 52, 3) := by decide +kernel
theorem kd_X5_117 : decode prog_7_method_1_code 117 = .ok (.aload_n 0, 1) := by decide +kernel
theorem kd_X5_118 : decode prog_7_method_1_code 118 = .ok (.iconst 4, 1) := by decide +kernel
theorem kd_X5_119 : decode prog_7_method_1_code 119 = .ok (.newarray .int, 2) := by decide +kernel
theorem kd_X5_121 : decode prog_7_method_1_code 121 = .ok (.putfield 55, 3) := by decide +kernel
theorem kd_X5_124 : decode prog_7_method_1_code 124 = .ok (.aload_n 0, 1) := by decide +kernel
theorem kd_X5_125 : decode prog_7_method_1_code 125 = .ok (.bipush 6, 2) := by decide +kernel
theorem kd_X5_127 : decode prog_7_method_1_code 127 = .ok (.newarray .int, 2) := by decide +kernel
theorem kd_X5_129 : decode prog_7_method_1_code 129 = .ok (.putfield 58, 3) := by decide +kernel
theorem kd_X5_132 : decode prog_7_method_1_code 132 = .ok (.aload_n 0, 1) := by decide +kernel
theorem kd_X5_133 : decode prog_7_method_1_code 133 = .ok (.iconst 3, 1) := by decide +kernel
theorem kd_X5_134 : decode prog_7_method_1_code 134 = .ok (.newarray .int, 2) := by decide +kernel
theorem kd_X5_136 : decode prog_7_method_1_code 136 = .ok (.putfield 61, 3) := by decide +kernel
theorem kd_X5_139 : decode prog_7_method_1_code 139 = .ok (.aload_n 0, 1) := by decide +kernel
theorem kd_X5_140 : decode prog_7_method_1_code 140 = .ok (.iconst 4, 1) := by decide +kernel
theorem kd_X5_141 : decode prog_7_method_1_code 141 = .ok (.newarray .int, 2) := by decide +kernel
theorem kd_X5_143 : decode prog_7_method_1_code 143 = .ok (.putfield 64, 3) := by decide +kernel
theorem kd_X5_146 : decode prog_7_method_1_code 146 = .ok (.aload_n 0, 1) := by decide +kernel
theorem kd_X5_147 : decode prog_7_method_1_code 147 = .ok (.bipush 8, 2) := by decide +kernel
theorem kd_X5_149 : decode prog_7_method_1_code 149 = .ok (.newarray .int, 2) := by decide +kernel
theorem kd_X5_151 : decode prog_7_method_1_code 151 = .ok (.putfield 67, 3) := by decide +kernel
theorem kd_X5_154 : decode prog_7_method_1_code 154 = .ok (.aload_n 0, 1) := by decide +kernel
theorem kd_X5_155 : decode prog_7_method_1_code 155 = .ok (.bipush 8, 2) := by decide +kernel
theorem kd_X5_157 : decode prog_7_method_1_code 157 = .ok (.newarray .int, 2) := by decide +kernel
theorem kd_X5_159 : decode prog_7_method_1_code 159 = .ok (.putfield 70, 3) := by decide +kernel
theorem kd_X5_162 : decode prog_7_method_1_code 162 = .ok (.aload_n 0, 1) := by decide +kernel
theorem kd_X5_163 : decode prog_7_method_1_code 163 = .ok (.iconst 4, 1) := by decide +kernel
theorem kd_X5_164 : decode prog_7_method_1_code 164 = .ok (.newarray .int, 2) := by decide +kernel
theorem kd_X5_166 : decode prog_7_method_1_code 166 = .ok (.putfield 73, 3) := by decide +kernel
theorem kd_X5_169 : decode prog_7_method_1_code 169 = .ok (.aload_n 0, 1) := by decide +kernel
theorem kd_X5_170 : decode prog_7_method_1_code 170 = .ok (.iconst 4, 1) := by decide +kernel
theorem kd_X5_171 : decode prog_7_method_1_code 171 = .ok (.newarray .int, 2) := by decide +kernel
theorem kd_X5_173 : decode prog_7_method_1_code 173 = .ok (.putfield 76, 3) := by decide +kernel
theorem kd_X5_176 : decode prog_7_method_1_code 176 = .ok (.aload_n 0, 1) := by decide +kernel
theorem kd_X5_177 : decode prog_7_method_1_code 177 = .ok (.sipush 240, 3) := by decide +kernel
theorem kd_X5_180 : decode prog_7_method_1_code 180 = .ok (.newarray .int, 2) := by decide +kernel
theorem kd_X5_182 : decode prog_7_method_1_code 182 = .ok (.putfield 79, 3) := by decide +kernel
theorem kd_X5_185 : decode prog_7_method_1_code 185 = .ok (.aload_n 0, 1) := by decide +kernel
theorem kd_X5_186 : decode prog_7_method_1_code 186 = .ok (.bipush 60, 2) := by decide +kernel
theorem kd_X5_188 : decode prog_7_method_1_code 188 = .ok (.newarray .int, 2) := by decide +kernel
theorem kd_X5_190 : decode prog_7_method_1_code 190 = .ok (.putfield 82, 3) := by decide +kernel
theorem kd_X5_193 : decode prog_7_method_1_code 193 = .ok (.iconst 0, 1) := by decide +kernel
theorem kd_X5_194 : decode prog_7_method_1_code 194 = .ok (.istore_n 1, 1) := by decide +kernel
theorem kd_X5_195 : decode prog_7_method_1_code 195 = .ok (.iload_n 1, 1) := by decide +kernel
theorem kd_X5_196 : decode prog_7_method_1_code 196 = .ok (.iconst 4, 1) := by decide +kernel
theorem kd_X5_197 : decode prog_7_method_1_code 197 = .ok (.if_icmp .ge 16, 3) := by decide +kernel
theorem kd_X5_200 : decode prog_7_method_1_code 200 = .ok (.aload_n 0, 1) := by decide +kernel
theorem kd_X5_201 : decode prog_7_method_1_code 201 = .ok (.getfield 73, 3) := by decide +kernel
theorem kd_X5_204 : decode prog_7_method_1_code 204 = .ok (.iload_n 1, 1) := by decide +kernel
theorem kd_X5_205 : decode prog_7_method_1_code 205 = .ok (.iconst (-1), 1) := by decide +kernel
theorem kd_X5_206 : decode prog_7_method_1_code 206 = .ok (.iastore, 1) := by decide +kernel
theorem kd_X5_207 : decode prog_7_method_1_code 207 = .ok (.iinc 1 1, 3) := by decide +kernel
theorem kd_X5_210 : decode prog_7_method_1_code 210 = .ok (.goto (-15), 3) := by decide +kernel
theorem kd_X5_213 : decode prog_7_method_1_code 213 = .ok (.return_, 1) := by decide +kernel
theorem kd_L_0 : decode code 0 = .ok (.new 7, 3) := by decide +kernel
theorem kd_L_3 : decode code 3 = .ok (.dup, 1) := by decide +kernel
theorem kd_L_4 : decode code 4 = .ok (.invokespecial 9, 3) := by decide +kernel
theorem kd_L_7 : decode code 7 = .ok (.astore_n 1, 1) := by decide +kernel
theorem kd_L_8 : decode code 8 = .ok (.new 10, 3) := by decide +kernel
theorem kd_L_11 : decode code 11 = .ok (.dup, 1) := by decide +kernel
theorem kd_L_12 : decode code 12 = .ok (.invokespecial 12, 3) := by decide +kernel
theorem kd_L_15 : decode code 15 = .ok (.astore_n 2, 1) := by decide +kernel
def k_ws (y : MethodName) (cc : ByteArray) (n : Nat) : List Cond := Cond.code y cc n none :: m_TB
theorem k_good {y : MethodName} {cc : ByteArray} {n : Nat} (h : Cond.code y cc n none ∈ m_TB) : GoodIn m_TB (k_ws y cc n) := fun w hw => by
  rcases List.mem_cons.mp hw with rfl | hw
  · exact m_goodT h
  · exact m_goodT hw
abbrev k_z : Nat → Int32 := fun _ => 0
def k_pre (dC : Nat → ClassId) (dI : Nat → Nat → Nat) (cI cR : ClassId) (h0 sz ci : Nat) (fs : List Value) : Array Value → State → Prop :=
  va_Pc [.ref h0] (fun U => U.heap.size = sz ∧ va_P (dC, dI) m_cl [(h0, .inr (ci, fs))] U.heap ∧ va_K (dC, dI) m_cl (m_tys cI cR) U ∧ va_D (fun _ => True) [(h0, .inr (ci, fs))])
theorem k_blind {dC : Nat → ClassId} {dI : Nat → Nat → Nat} {cI cR : ClassId} {h0 sz ci : Nat} {fs : List Value} : FrameBlind (k_pre dC dI cI cR h0 sz ci fs) := fun a U g mk q => by
  obtain ⟨q0, q1, qP, qK, qD⟩ := q
  exact ⟨q0, q1, qP, va_K.moved (u := U) (U := U.calling g mk a) (Vm.Alike.refl U.vm) qK, qD⟩
theorem k_int {s : State} {c1 c2 : ClassId} (h1 : va_RA s c1 .int) (h2 : va_RA s c2 .int) : c1 = c2 := Option.some.inj (Eq.trans (Eq.symm h1) h2)
theorem k_ref {s : State} {C : String} {c1 c2 : ClassId} (h1 : va_RA s c1 (.object C)) (h2 : va_RA s c2 (.object C)) : c1 = c2 := by
  obtain ⟨_, _, _, _, _, e1⟩ := h1
  obtain ⟨_, _, _, _, _, e2⟩ := h2
  exact Option.some.inj (e1.symm.trans e2)
section KA
variable {p : Program} {l : Launch} {e : Env} {R : Room} {s : State} {m : MethodId} {args : Array Value} {below : List Frame} {meth : Method} {c : Code} {H : Heap} {locs : List Loc} {cells slots : Nat} {Q : State → Prop} {cc : ByteArray} {pc : Nat} {ls : Array Slot} {rest : List Value} {D : va_G} {A : Nat → Prop} {a : Nat} {ws : va_W} {cI cR : ClassId}
/-- newarray int; putfield of a final field -/
theorem k_arr (hx : p.tables.exec = Jvm.exec) (hb : c.code = cc) {own : String} {T : u_T} {N ci idx : Nat} (hts : ∀ w ∈ m_TB, w.before args s = true) (hin : ∀ w ∈ u_ws own T N, w ∈ m_TB) (ty0 : Nat → FieldType) (hty : ∀ k, k < N → parseFieldDescriptor (T k).2.2.1 = some (ty0 k)) (hnm : ∀ a, a < N → ∀ b, b < N → a ≠ b → (T a).2.1 ≠ (T b).2.1) (hown : s.vm.findClass own = some m.cls) (hK : va_K D m_cl (m_tys cI cR) s) (hP : va_P D m_cl ws H) (hD : va_D A ws) (hS : va_S A s.heap H locs) (hA : ∀ q, s.heap.size ≤ q → A q) {fs : List Value} (he : ws[0]? = some (a, .inr (ci, fs))) (hc : m_cl[ci]? = some (own, T, N)) (k : Nat) (hk : k < N) (hlink : Cond.fieldLink own idx own (T k).2.1 (T k).2.2.1 ∈ m_TB) (hfin : (T k).2.2.2 = true) (hin2 : meth.name = "<init>") (hdecl : (T k).1 = own) (hfi : ty0 k = .array .int) (hl : k < fs.length) (n : Nat) (hn : n < 1000) (hcells : cells + 1 ≤ R.cells) (hslots : slots + n ≤ R.slots) (hd1 : decode cc pc = .ok (.newarray .int, 2)) (hd2 : decode cc (pc + 2) = .ok (.putfield idx, 3))
    (kk : ∀ (q : Nat) (H1 : Heap) (locs1 : List Loc), va_P D m_cl ((ws ++ ([(q, .inl (cI, n, .inl k_z))] : va_W)).set 0 (a, .inr (ci, fs.set k (.ref q)))) H1 → va_D A ((ws ++ ([(q, .inl (cI, n, .inl k_z))] : va_W)).set 0 (a, .inr (ci, fs.set k (.ref q)))) → va_S A s.heap H1 locs1 → W p l e R s m args below meth c H1 locs1 (cells + 1) (slots + n) Q (F0 m (pc + 2 + 3) ls rest)) : W p l e R s m args below meth c H locs cells slots Q (F0 m pc ls (.int (nI n) :: .ref a :: rest)) := by
  refine va_newa (atype := .int) (ty := .int) (a0 := (n, .inl k_z)) (N' := n) hx hb (hts _ kw_2) rfl hK hP hD hS hA (fun cA => rfl) (nI_pos (by omega)) (nI_clamp (by omega)) (by show n * 4 ≤ _; omega) hcells hslots hd1 (fun q cA H1 hK1 hP1 hD1 hS1 => ?_)
  have hcA : cA = cI := k_int (hK1.2 2 _ rfl).2 (hK.2 0 _ rfl).2
  subst hcA
  have he1 : (ws ++ ([(q, .inl (cA, n, .inl k_z))] : va_W))[0]? = some (a, .inr (ci, fs)) := by
    rw [List.getElem?_append_left ((List.getElem?_eq_some_iff.mp he).1)]
    exact he
  refine va_putF (C := own) (T := T) (N := N) (ty := ty0 k) hx hb hts hin ty0 hty hnm hown hK hP1 hD1 hS1 0 he1 hc k hk (hts _ hlink) (fun _ h9 => by rw [hdecl] at h9; exact h9) hfin hin2 hdecl (hty k hk) (by rw [hfi]; rfl) (by rw [hfi]; rfl) hl hd2 (fun H2 locs2 hP2 hD2 hS2 => ?_)
  exact kk q H2 locs2 hP2 hD2 hS2
end KA
