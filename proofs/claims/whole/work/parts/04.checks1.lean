set_option maxRecDepth 100000 in
theorem ck_X0_workOut : m_ckM M_X0_workOut = true := by decide +kernel
set_option maxRecDepth 100000 in
theorem ck_X0_findReader : m_ckM M_X0_findReader = true := by decide +kernel
set_option maxRecDepth 100000 in
theorem ck_X0_bringDown : m_ckM M_X0_bringDown = true := by decide +kernel
set_option maxRecDepth 100000 in
theorem ck_X0_linesBy : m_ckM M_X0_linesBy = true := by decide +kernel
set_option maxRecDepth 100000 in
theorem ck_X0_wetOfAll : m_ckM M_X0_wetOfAll = true := by decide +kernel
set_option maxRecDepth 100000 in
theorem ck_X0_wetFields : m_ckM M_X0_wetFields = true := by decide +kernel
set_option maxRecDepth 100000 in
theorem ck_X1_renew : m_ckM M_X1_renew = true := by decide +kernel
set_option maxRecDepth 100000 in
theorem ck_X1_faultOfTaking : m_ckM M_X1_faultOfTaking = true := by decide +kernel
set_option maxRecDepth 100000 in
theorem ck_X1_hasCell : m_ckM M_X1_hasCell = true := by decide +kernel
set_option maxRecDepth 100000 in
theorem ck_X1_hasCells : m_ckM M_X1_hasCells = true := by decide +kernel
set_option maxRecDepth 100000 in
theorem ck_X1_cut : m_ckM M_X1_cut = true := by decide +kernel
set_option maxRecDepth 100000 in
theorem ck_X2_clear : m_ckM M_X2_clear = true := by decide +kernel
set_option maxRecDepth 100000 in
theorem ck_X2_become : m_ckM M_X2_become = true := by decide +kernel
set_option maxRecDepth 100000 in
theorem ck_X2_hourOfReading : m_ckM M_X2_hourOfReading = true := by decide +kernel
set_option maxRecDepth 100000 in
theorem ck_X2_given : m_ckM M_X2_given = true := by decide +kernel
set_option maxRecDepth 100000 in
theorem ck_X2_coughs : m_ckM M_X2_coughs = true := by decide +kernel
set_option maxRecDepth 100000 in
theorem ck_X2_turnCough : m_ckM M_X2_turnCough = true := by decide +kernel
set_option maxRecDepth 100000 in
theorem ck_X2_coughCount : m_ckM M_X2_coughCount = true := by decide +kernel
set_option maxRecDepth 100000 in
theorem ck_X2_goesTo : m_ckM M_X2_goesTo = true := by decide +kernel
set_option maxRecDepth 100000 in
theorem ck_X2_beginnings : m_ckM M_X2_beginnings = true := by decide +kernel
set_option maxRecDepth 100000 in
theorem ck_X2_beginBy : m_ckM M_X2_beginBy = true := by decide +kernel
set_option maxRecDepth 100000 in
theorem ck_X2_does : m_ckM M_X2_does = true := by decide +kernel
set_option maxRecDepth 100000 in
theorem ck_X3_firstFault : m_ckM M_X3_firstFault = true := by decide +kernel
set_option maxRecDepth 100000 in
theorem ck_X3_isText : m_ckM M_X3_isText = true := by decide +kernel
set_option maxRecDepth 100000 in
theorem ck_X3_takesLine : m_ckM M_X3_takesLine = true := by decide +kernel
set_option maxRecDepth 100000 in
theorem ck_X3_takesCrier : m_ckM M_X3_takesCrier = true := by decide +kernel
set_option maxRecDepth 100000 in
theorem ck_X3_isAt : m_ckM M_X3_isAt = true := by decide +kernel
set_option maxRecDepth 100000 in
theorem ck_X3_takes : m_ckM M_X3_takes = true := by decide +kernel
set_option maxRecDepth 100000 in
theorem ck_X3_takenKind : m_ckM M_X3_takenKind = true := by decide +kernel
set_option maxRecDepth 100000 in
theorem ck_X3_takenDigit : m_ckM M_X3_takenDigit = true := by decide +kernel
set_option maxRecDepth 100000 in
theorem ck_X4_shower : m_ckM M_X4_shower = true := by decide +kernel
set_option maxRecDepth 100000 in
theorem ck_X4_ofLine : m_ckM M_X4_ofLine = true := by decide +kernel
set_option maxRecDepth 100000 in
theorem ck_X4_ofCrier : m_ckM M_X4_ofCrier = true := by decide +kernel
set_option maxRecDepth 100000 in
theorem ck_X4_print : m_ckM M_X4_print = true := by decide +kernel
set_option maxRecDepth 100000 in
theorem ck_X4_begin : m_ckM M_X4_begin = true := by decide +kernel
set_option maxRecDepth 100000 in
theorem ck_X4_cough : m_ckM M_X4_cough = true := by decide +kernel
set_option maxRecDepth 100000 in
theorem ck_X4_comes : m_ckM M_X4_comes = true := by decide +kernel
set_option maxRecDepth 100000 in
theorem ck_X4_wet : m_ckM M_X4_wet = true := by decide +kernel
set_option maxRecDepth 100000 in
theorem ck_X4_day : m_ckM M_X4_day = true := by decide +kernel
