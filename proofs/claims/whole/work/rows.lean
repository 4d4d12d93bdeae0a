section
-- ===== PART A: goes FIRST, ahead of the names: the tables' words, and 'selects' of the private methods out of them =====
/-- a private method of a class that the tables say can be made, by its rows of tables_1 -/
def lw_okq (q : MethodName × Nat) : Prop := (q.1.cls ≠ "java/lang/invoke/MethodHandle" ∧ q.1.cls ≠ "java/lang/invoke/VarHandle") ∧ Cond.instantiable q.1.cls q.2 ∈ tables_1 ∧ Cond.privateMethod q.1 ∈ tables_1 ∧ Cond.instanceMethod q.1 ∈ tables_1
theorem lw_p0 : lw_okq (⟨"RainRead", "faulted", "(I)I"⟩, 10) := ⟨⟨by decide +kernel, by decide +kernel⟩, List.mem_of_getElem? (i := 12) (by decide +kernel), List.mem_of_getElem? (i := 195) (by decide +kernel), List.mem_of_getElem? (i := 196) (by decide +kernel)⟩
theorem lw_p1 : lw_okq (⟨"RainRead$TextReader", "isText", "(LRainRead$Shower;)Z"⟩, 3) := ⟨⟨by decide +kernel, by decide +kernel⟩, List.mem_of_getElem? (i := 110) (by decide +kernel), List.mem_of_getElem? (i := 217) (by decide +kernel), List.mem_of_getElem? (i := 218) (by decide +kernel)⟩
theorem lw_p2 : lw_okq (⟨"RainRead$TextReader", "takes", "(C)Z"⟩, 3) := ⟨⟨by decide +kernel, by decide +kernel⟩, List.mem_of_getElem? (i := 110) (by decide +kernel), List.mem_of_getElem? (i := 221) (by decide +kernel), List.mem_of_getElem? (i := 222) (by decide +kernel)⟩
theorem lw_p3 : lw_okq (⟨"RainRead$TextReader", "isAt", "(C)Z"⟩, 3) := ⟨⟨by decide +kernel, by decide +kernel⟩, List.mem_of_getElem? (i := 110) (by decide +kernel), List.mem_of_getElem? (i := 225) (by decide +kernel), List.mem_of_getElem? (i := 226) (by decide +kernel)⟩
theorem lw_p4 : lw_okq (⟨"RainRead$TextReader", "takesLine", "(LRainRead$Shower;I)Z"⟩, 3) := ⟨⟨by decide +kernel, by decide +kernel⟩, List.mem_of_getElem? (i := 110) (by decide +kernel), List.mem_of_getElem? (i := 229) (by decide +kernel), List.mem_of_getElem? (i := 230) (by decide +kernel)⟩
theorem lw_p5 : lw_okq (⟨"RainRead$TextReader", "takenDigit", "(II)I"⟩, 3) := ⟨⟨by decide +kernel, by decide +kernel⟩, List.mem_of_getElem? (i := 110) (by decide +kernel), List.mem_of_getElem? (i := 233) (by decide +kernel), List.mem_of_getElem? (i := 234) (by decide +kernel)⟩
theorem lw_p6 : lw_okq (⟨"RainRead$TextReader", "takesCrier", "(LRainRead$Shower;I)Z"⟩, 3) := ⟨⟨by decide +kernel, by decide +kernel⟩, List.mem_of_getElem? (i := 110) (by decide +kernel), List.mem_of_getElem? (i := 237) (by decide +kernel), List.mem_of_getElem? (i := 238) (by decide +kernel)⟩
theorem lw_p7 : lw_okq (⟨"RainRead$TextReader", "takenKind", "()I"⟩, 3) := ⟨⟨by decide +kernel, by decide +kernel⟩, List.mem_of_getElem? (i := 110) (by decide +kernel), List.mem_of_getElem? (i := 241) (by decide +kernel), List.mem_of_getElem? (i := 242) (by decide +kernel)⟩
theorem lw_p8 : lw_okq (⟨"RainRead", "isLine", "(I)Z"⟩, 10) := ⟨⟨by decide +kernel, by decide +kernel⟩, List.mem_of_getElem? (i := 12) (by decide +kernel), List.mem_of_getElem? (i := 254) (by decide +kernel), List.mem_of_getElem? (i := 255) (by decide +kernel)⟩
theorem lw_p9 : lw_okq (⟨"RainRead$Fall", "findReader", "(LRainRead$Shower;I)V"⟩, 8) := ⟨⟨by decide +kernel, by decide +kernel⟩, List.mem_of_getElem? (i := 71) (by decide +kernel), List.mem_of_getElem? (i := 263) (by decide +kernel), List.mem_of_getElem? (i := 264) (by decide +kernel)⟩
theorem lw_p10 : lw_okq (⟨"RainRead$Fall", "bringDown", "(LRainRead$Shower;I)V"⟩, 8) := ⟨⟨by decide +kernel, by decide +kernel⟩, List.mem_of_getElem? (i := 71) (by decide +kernel), List.mem_of_getElem? (i := 271) (by decide +kernel), List.mem_of_getElem? (i := 272) (by decide +kernel)⟩
theorem lw_p11 : lw_okq (⟨"RainRead", "isCrier", "(I)Z"⟩, 10) := ⟨⟨by decide +kernel, by decide +kernel⟩, List.mem_of_getElem? (i := 12) (by decide +kernel), List.mem_of_getElem? (i := 294) (by decide +kernel), List.mem_of_getElem? (i := 295) (by decide +kernel)⟩
theorem lw_p12 : lw_okq (⟨"RainRead", "refusalOf", "(IZ)I"⟩, 10) := ⟨⟨by decide +kernel, by decide +kernel⟩, List.mem_of_getElem? (i := 12) (by decide +kernel), List.mem_of_getElem? (i := 321) (by decide +kernel), List.mem_of_getElem? (i := 322) (by decide +kernel)⟩
theorem lw_p13 : lw_okq (⟨"RainRead", "hasShower", "()Z"⟩, 10) := ⟨⟨by decide +kernel, by decide +kernel⟩, List.mem_of_getElem? (i := 12) (by decide +kernel), List.mem_of_getElem? (i := 328) (by decide +kernel), List.mem_of_getElem? (i := 329) (by decide +kernel)⟩
theorem lw_p14 : lw_okq (⟨"RainRead", "areActs", "(LRainRead$Sheet;II)Z"⟩, 10) := ⟨⟨by decide +kernel, by decide +kernel⟩, List.mem_of_getElem? (i := 12) (by decide +kernel), List.mem_of_getElem? (i := 352) (by decide +kernel), List.mem_of_getElem? (i := 353) (by decide +kernel)⟩
theorem lw_p15 : lw_okq (⟨"RainRead", "isAct", "(II)Z"⟩, 10) := ⟨⟨by decide +kernel, by decide +kernel⟩, List.mem_of_getElem? (i := 12) (by decide +kernel), List.mem_of_getElem? (i := 356) (by decide +kernel), List.mem_of_getElem? (i := 357) (by decide +kernel)⟩
def lw_privs_1 : List (MethodName × Nat) := [(⟨"RainRead", "faulted", "(I)I"⟩, 10), (⟨"RainRead$TextReader", "isText", "(LRainRead$Shower;)Z"⟩, 3), (⟨"RainRead$TextReader", "takes", "(C)Z"⟩, 3), (⟨"RainRead$TextReader", "isAt", "(C)Z"⟩, 3), (⟨"RainRead$TextReader", "takesLine", "(LRainRead$Shower;I)Z"⟩, 3), (⟨"RainRead$TextReader", "takenDigit", "(II)I"⟩, 3), (⟨"RainRead$TextReader", "takesCrier", "(LRainRead$Shower;I)Z"⟩, 3), (⟨"RainRead$TextReader", "takenKind", "()I"⟩, 3), (⟨"RainRead", "isLine", "(I)Z"⟩, 10), (⟨"RainRead$Fall", "findReader", "(LRainRead$Shower;I)V"⟩, 8), (⟨"RainRead$Fall", "bringDown", "(LRainRead$Shower;I)V"⟩, 8), (⟨"RainRead", "isCrier", "(I)Z"⟩, 10), (⟨"RainRead", "refusalOf", "(IZ)I"⟩, 10), (⟨"RainRead", "hasShower", "()Z"⟩, 10), (⟨"RainRead", "areActs", "(LRainRead$Sheet;II)Z"⟩, 10), (⟨"RainRead", "isAct", "(II)Z"⟩, 10)]
theorem lw_r1 : ∀ q ∈ lw_privs_1, lw_okq q := List.forall_mem_cons.mpr ⟨lw_p0, List.forall_mem_cons.mpr ⟨lw_p1, List.forall_mem_cons.mpr ⟨lw_p2, List.forall_mem_cons.mpr ⟨lw_p3, List.forall_mem_cons.mpr ⟨lw_p4, List.forall_mem_cons.mpr ⟨lw_p5, List.forall_mem_cons.mpr ⟨lw_p6, List.forall_mem_cons.mpr ⟨lw_p7, List.forall_mem_cons.mpr ⟨lw_p8, List.forall_mem_cons.mpr ⟨lw_p9, List.forall_mem_cons.mpr ⟨lw_p10, List.forall_mem_cons.mpr ⟨lw_p11, List.forall_mem_cons.mpr ⟨lw_p12, List.forall_mem_cons.mpr ⟨lw_p13, List.forall_mem_cons.mpr ⟨lw_p14, List.forall_mem_cons.mpr ⟨lw_p15, fun _ h => absurd h List.not_mem_nil⟩⟩⟩⟩⟩⟩⟩⟩⟩⟩⟩⟩⟩⟩⟩⟩
theorem lw_p16 : lw_okq (⟨"RainRead", "firstWrong", "(LRainRead$Sheet;II)I"⟩, 10) := ⟨⟨by decide +kernel, by decide +kernel⟩, List.mem_of_getElem? (i := 12) (by decide +kernel), List.mem_of_getElem? (i := 360) (by decide +kernel), List.mem_of_getElem? (i := 361) (by decide +kernel)⟩
theorem lw_p17 : lw_okq (⟨"RainRead", "answerOfDay", "(II)I"⟩, 10) := ⟨⟨by decide +kernel, by decide +kernel⟩, List.mem_of_getElem? (i := 12) (by decide +kernel), List.mem_of_getElem? (i := 369) (by decide +kernel), List.mem_of_getElem? (i := 370) (by decide +kernel)⟩
theorem lw_p18 : lw_okq (⟨"RainRead", "startIn", "(II)I"⟩, 10) := ⟨⟨by decide +kernel, by decide +kernel⟩, List.mem_of_getElem? (i := 12) (by decide +kernel), List.mem_of_getElem? (i := 389) (by decide +kernel), List.mem_of_getElem? (i := 390) (by decide +kernel)⟩
theorem lw_p19 : lw_okq (⟨"RainRead", "savesBy", "(III)Z"⟩, 10) := ⟨⟨by decide +kernel, by decide +kernel⟩, List.mem_of_getElem? (i := 12) (by decide +kernel), List.mem_of_getElem? (i := 415) (by decide +kernel), List.mem_of_getElem? (i := 416) (by decide +kernel)⟩
theorem lw_p20 : lw_okq (⟨"RainRead", "isWetBy", "(IIII)Z"⟩, 10) := ⟨⟨by decide +kernel, by decide +kernel⟩, List.mem_of_getElem? (i := 12) (by decide +kernel), List.mem_of_getElem? (i := 423) (by decide +kernel), List.mem_of_getElem? (i := 424) (by decide +kernel)⟩
theorem lw_p21 : lw_okq (⟨"RainRead", "painOfFirst", "(IIII)I"⟩, 10) := ⟨⟨by decide +kernel, by decide +kernel⟩, List.mem_of_getElem? (i := 12) (by decide +kernel), List.mem_of_getElem? (i := 431) (by decide +kernel), List.mem_of_getElem? (i := 432) (by decide +kernel)⟩
theorem lw_p22 : lw_okq (⟨"RainRead", "coughInTrial", "(IIII)V"⟩, 10) := ⟨⟨by decide +kernel, by decide +kernel⟩, List.mem_of_getElem? (i := 12) (by decide +kernel), List.mem_of_getElem? (i := 435) (by decide +kernel), List.mem_of_getElem? (i := 436) (by decide +kernel)⟩
theorem lw_p23 : lw_okq (⟨"RainRead", "painOfSecond", "(IIII)I"⟩, 10) := ⟨⟨by decide +kernel, by decide +kernel⟩, List.mem_of_getElem? (i := 12) (by decide +kernel), List.mem_of_getElem? (i := 439) (by decide +kernel), List.mem_of_getElem? (i := 440) (by decide +kernel)⟩
theorem lw_p24 : lw_okq (⟨"RainRead", "fitting", "(I[III)I"⟩, 10) := ⟨⟨by decide +kernel, by decide +kernel⟩, List.mem_of_getElem? (i := 12) (by decide +kernel), List.mem_of_getElem? (i := 455) (by decide +kernel), List.mem_of_getElem? (i := 456) (by decide +kernel)⟩
theorem lw_p25 : lw_okq (⟨"RainRead", "allReadingsAreSo", "()Z"⟩, 10) := ⟨⟨by decide +kernel, by decide +kernel⟩, List.mem_of_getElem? (i := 12) (by decide +kernel), List.mem_of_getElem? (i := 459) (by decide +kernel), List.mem_of_getElem? (i := 460) (by decide +kernel)⟩
theorem lw_p26 : lw_okq (⟨"RainRead", "plainTelling", "(I)I"⟩, 10) := ⟨⟨by decide +kernel, by decide +kernel⟩, List.mem_of_getElem? (i := 12) (by decide +kernel), List.mem_of_getElem? (i := 517) (by decide +kernel), List.mem_of_getElem? (i := 518) (by decide +kernel)⟩
theorem lw_p27 : lw_okq (⟨"RainRead", "leave", "(I)V"⟩, 10) := ⟨⟨by decide +kernel, by decide +kernel⟩, List.mem_of_getElem? (i := 12) (by decide +kernel), List.mem_of_getElem? (i := 521) (by decide +kernel), List.mem_of_getElem? (i := 522) (by decide +kernel)⟩
theorem lw_p28 : lw_okq (⟨"RainRead", "mumblingTelling", "(I)I"⟩, 10) := ⟨⟨by decide +kernel, by decide +kernel⟩, List.mem_of_getElem? (i := 12) (by decide +kernel), List.mem_of_getElem? (i := 525) (by decide +kernel), List.mem_of_getElem? (i := 526) (by decide +kernel)⟩
theorem lw_p29 : lw_okq (⟨"RainRead", "chantingTelling", "(I)I"⟩, 10) := ⟨⟨by decide +kernel, by decide +kernel⟩, List.mem_of_getElem? (i := 12) (by decide +kernel), List.mem_of_getElem? (i := 529) (by decide +kernel), List.mem_of_getElem? (i := 530) (by decide +kernel)⟩
theorem lw_p30 : lw_okq (⟨"RainReadModel", "refused", "(I)I"⟩, 34) := ⟨⟨by decide +kernel, by decide +kernel⟩, List.mem_of_getElem? (i := 558) (by decide +kernel), List.mem_of_getElem? (i := 678) (by decide +kernel), List.mem_of_getElem? (i := 679) (by decide +kernel)⟩
theorem lw_p31 : lw_okq (⟨"RainReadModel", "cellsBarred", "(IIIJ)I"⟩, 34) := ⟨⟨by decide +kernel, by decide +kernel⟩, List.mem_of_getElem? (i := 558) (by decide +kernel), List.mem_of_getElem? (i := 683) (by decide +kernel), List.mem_of_getElem? (i := 684) (by decide +kernel)⟩
def lw_privs_2 : List (MethodName × Nat) := [(⟨"RainRead", "firstWrong", "(LRainRead$Sheet;II)I"⟩, 10), (⟨"RainRead", "answerOfDay", "(II)I"⟩, 10), (⟨"RainRead", "startIn", "(II)I"⟩, 10), (⟨"RainRead", "savesBy", "(III)Z"⟩, 10), (⟨"RainRead", "isWetBy", "(IIII)Z"⟩, 10), (⟨"RainRead", "painOfFirst", "(IIII)I"⟩, 10), (⟨"RainRead", "coughInTrial", "(IIII)V"⟩, 10), (⟨"RainRead", "painOfSecond", "(IIII)I"⟩, 10), (⟨"RainRead", "fitting", "(I[III)I"⟩, 10), (⟨"RainRead", "allReadingsAreSo", "()Z"⟩, 10), (⟨"RainRead", "plainTelling", "(I)I"⟩, 10), (⟨"RainRead", "leave", "(I)V"⟩, 10), (⟨"RainRead", "mumblingTelling", "(I)I"⟩, 10), (⟨"RainRead", "chantingTelling", "(I)I"⟩, 10), (⟨"RainReadModel", "refused", "(I)I"⟩, 34), (⟨"RainReadModel", "cellsBarred", "(IIIJ)I"⟩, 34)]
theorem lw_r2 : ∀ q ∈ lw_privs_2, lw_okq q := List.forall_mem_cons.mpr ⟨lw_p16, List.forall_mem_cons.mpr ⟨lw_p17, List.forall_mem_cons.mpr ⟨lw_p18, List.forall_mem_cons.mpr ⟨lw_p19, List.forall_mem_cons.mpr ⟨lw_p20, List.forall_mem_cons.mpr ⟨lw_p21, List.forall_mem_cons.mpr ⟨lw_p22, List.forall_mem_cons.mpr ⟨lw_p23, List.forall_mem_cons.mpr ⟨lw_p24, List.forall_mem_cons.mpr ⟨lw_p25, List.forall_mem_cons.mpr ⟨lw_p26, List.forall_mem_cons.mpr ⟨lw_p27, List.forall_mem_cons.mpr ⟨lw_p28, List.forall_mem_cons.mpr ⟨lw_p29, List.forall_mem_cons.mpr ⟨lw_p30, List.forall_mem_cons.mpr ⟨lw_p31, fun _ h => absurd h List.not_mem_nil⟩⟩⟩⟩⟩⟩⟩⟩⟩⟩⟩⟩⟩⟩⟩⟩
theorem lw_p32 : lw_okq (⟨"RainReadModel", "failed", "(I)I"⟩, 34) := ⟨⟨by decide +kernel, by decide +kernel⟩, List.mem_of_getElem? (i := 558) (by decide +kernel), List.mem_of_getElem? (i := 687) (by decide +kernel), List.mem_of_getElem? (i := 688) (by decide +kernel)⟩
theorem lw_p33 : lw_okq (⟨"RainReadModel", "readsShower", "(II)Z"⟩, 34) := ⟨⟨by decide +kernel, by decide +kernel⟩, List.mem_of_getElem? (i := 558) (by decide +kernel), List.mem_of_getElem? (i := 694) (by decide +kernel), List.mem_of_getElem? (i := 695) (by decide +kernel)⟩
theorem lw_p34 : lw_okq (⟨"RainReadModel", "codeAt", "(II)I"⟩, 34) := ⟨⟨by decide +kernel, by decide +kernel⟩, List.mem_of_getElem? (i := 558) (by decide +kernel), List.mem_of_getElem? (i := 698) (by decide +kernel), List.mem_of_getElem? (i := 699) (by decide +kernel)⟩
theorem lw_p35 : lw_okq (⟨"RainReadModel", "readsLine", "(II)Z"⟩, 34) := ⟨⟨by decide +kernel, by decide +kernel⟩, List.mem_of_getElem? (i := 558) (by decide +kernel), List.mem_of_getElem? (i := 702) (by decide +kernel), List.mem_of_getElem? (i := 703) (by decide +kernel)⟩
theorem lw_p36 : lw_okq (⟨"RainReadModel", "figure", "(IIII)I"⟩, 34) := ⟨⟨by decide +kernel, by decide +kernel⟩, List.mem_of_getElem? (i := 558) (by decide +kernel), List.mem_of_getElem? (i := 706) (by decide +kernel), List.mem_of_getElem? (i := 707) (by decide +kernel)⟩
theorem lw_p37 : lw_okq (⟨"RainReadModel", "readsCrier", "(II)Z"⟩, 34) := ⟨⟨by decide +kernel, by decide +kernel⟩, List.mem_of_getElem? (i := 558) (by decide +kernel), List.mem_of_getElem? (i := 710) (by decide +kernel), List.mem_of_getElem? (i := 711) (by decide +kernel)⟩
theorem lw_p38 : lw_okq (⟨"RainReadModel", "noLine", "(I)Z"⟩, 34) := ⟨⟨by decide +kernel, by decide +kernel⟩, List.mem_of_getElem? (i := 558) (by decide +kernel), List.mem_of_getElem? (i := 718) (by decide +kernel), List.mem_of_getElem? (i := 719) (by decide +kernel)⟩
theorem lw_p39 : lw_okq (⟨"RainReadModel", "rains", "()V"⟩, 34) := ⟨⟨by decide +kernel, by decide +kernel⟩, List.mem_of_getElem? (i := 558) (by decide +kernel), List.mem_of_getElem? (i := 722) (by decide +kernel), List.mem_of_getElem? (i := 723) (by decide +kernel)⟩
theorem lw_p40 : lw_okq (⟨"RainReadModel", "reads", "(I)V"⟩, 34) := ⟨⟨by decide +kernel, by decide +kernel⟩, List.mem_of_getElem? (i := 558) (by decide +kernel), List.mem_of_getElem? (i := 726) (by decide +kernel), List.mem_of_getElem? (i := 727) (by decide +kernel)⟩
theorem lw_p41 : lw_okq (⟨"RainReadModel", "hourBy", "(II)I"⟩, 34) := ⟨⟨by decide +kernel, by decide +kernel⟩, List.mem_of_getElem? (i := 558) (by decide +kernel), List.mem_of_getElem? (i := 730) (by decide +kernel), List.mem_of_getElem? (i := 731) (by decide +kernel)⟩
theorem lw_p42 : lw_okq (⟨"RainReadModel", "given", "(II)I"⟩, 34) := ⟨⟨by decide +kernel, by decide +kernel⟩, List.mem_of_getElem? (i := 558) (by decide +kernel), List.mem_of_getElem? (i := 734) (by decide +kernel), List.mem_of_getElem? (i := 735) (by decide +kernel)⟩
theorem lw_p43 : lw_okq (⟨"RainReadModel", "falls", "(III)V"⟩, 34) := ⟨⟨by decide +kernel, by decide +kernel⟩, List.mem_of_getElem? (i := 558) (by decide +kernel), List.mem_of_getElem? (i := 738) (by decide +kernel), List.mem_of_getElem? (i := 739) (by decide +kernel)⟩
theorem lw_p44 : lw_okq (⟨"RainReadModel", "coughs", "(II)Z"⟩, 34) := ⟨⟨by decide +kernel, by decide +kernel⟩, List.mem_of_getElem? (i := 558) (by decide +kernel), List.mem_of_getElem? (i := 742) (by decide +kernel), List.mem_of_getElem? (i := 743) (by decide +kernel)⟩
theorem lw_p45 : lw_okq (⟨"RainReadModel", "noCrier", "(I)Z"⟩, 34) := ⟨⟨by decide +kernel, by decide +kernel⟩, List.mem_of_getElem? (i := 558) (by decide +kernel), List.mem_of_getElem? (i := 750) (by decide +kernel), List.mem_of_getElem? (i := 751) (by decide +kernel)⟩
theorem lw_p46 : lw_okq (⟨"RainReadModel", "coughed", "(II)I"⟩, 34) := ⟨⟨by decide +kernel, by decide +kernel⟩, List.mem_of_getElem? (i := 558) (by decide +kernel), List.mem_of_getElem? (i := 774) (by decide +kernel), List.mem_of_getElem? (i := 775) (by decide +kernel)⟩
theorem lw_p47 : lw_okq (⟨"RainReadModel", "wetNow", "(I)I"⟩, 34) := ⟨⟨by decide +kernel, by decide +kernel⟩, List.mem_of_getElem? (i := 558) (by decide +kernel), List.mem_of_getElem? (i := 786) (by decide +kernel), List.mem_of_getElem? (i := 787) (by decide +kernel)⟩
def lw_privs_3 : List (MethodName × Nat) := [(⟨"RainReadModel", "failed", "(I)I"⟩, 34), (⟨"RainReadModel", "readsShower", "(II)Z"⟩, 34), (⟨"RainReadModel", "codeAt", "(II)I"⟩, 34), (⟨"RainReadModel", "readsLine", "(II)Z"⟩, 34), (⟨"RainReadModel", "figure", "(IIII)I"⟩, 34), (⟨"RainReadModel", "readsCrier", "(II)Z"⟩, 34), (⟨"RainReadModel", "noLine", "(I)Z"⟩, 34), (⟨"RainReadModel", "rains", "()V"⟩, 34), (⟨"RainReadModel", "reads", "(I)V"⟩, 34), (⟨"RainReadModel", "hourBy", "(II)I"⟩, 34), (⟨"RainReadModel", "given", "(II)I"⟩, 34), (⟨"RainReadModel", "falls", "(III)V"⟩, 34), (⟨"RainReadModel", "coughs", "(II)Z"⟩, 34), (⟨"RainReadModel", "noCrier", "(I)Z"⟩, 34), (⟨"RainReadModel", "coughed", "(II)I"⟩, 34), (⟨"RainReadModel", "wetNow", "(I)I"⟩, 34)]
theorem lw_r3 : ∀ q ∈ lw_privs_3, lw_okq q := List.forall_mem_cons.mpr ⟨lw_p32, List.forall_mem_cons.mpr ⟨lw_p33, List.forall_mem_cons.mpr ⟨lw_p34, List.forall_mem_cons.mpr ⟨lw_p35, List.forall_mem_cons.mpr ⟨lw_p36, List.forall_mem_cons.mpr ⟨lw_p37, List.forall_mem_cons.mpr ⟨lw_p38, List.forall_mem_cons.mpr ⟨lw_p39, List.forall_mem_cons.mpr ⟨lw_p40, List.forall_mem_cons.mpr ⟨lw_p41, List.forall_mem_cons.mpr ⟨lw_p42, List.forall_mem_cons.mpr ⟨lw_p43, List.forall_mem_cons.mpr ⟨lw_p44, List.forall_mem_cons.mpr ⟨lw_p45, List.forall_mem_cons.mpr ⟨lw_p46, List.forall_mem_cons.mpr ⟨lw_p47, fun _ h => absurd h List.not_mem_nil⟩⟩⟩⟩⟩⟩⟩⟩⟩⟩⟩⟩⟩⟩⟩⟩
theorem lw_p48 : lw_okq (⟨"RainReadModel", "keeps", "()V"⟩, 34) := ⟨⟨by decide +kernel, by decide +kernel⟩, List.mem_of_getElem? (i := 558) (by decide +kernel), List.mem_of_getElem? (i := 802) (by decide +kernel), List.mem_of_getElem? (i := 803) (by decide +kernel)⟩
theorem lw_p49 : lw_okq (⟨"RainReadModel", "dayOf", "(III)I"⟩, 34) := ⟨⟨by decide +kernel, by decide +kernel⟩, List.mem_of_getElem? (i := 558) (by decide +kernel), List.mem_of_getElem? (i := 806) (by decide +kernel), List.mem_of_getElem? (i := 807) (by decide +kernel)⟩
theorem lw_p50 : lw_okq (⟨"RainReadModel", "doesPair", "(II)Z"⟩, 34) := ⟨⟨by decide +kernel, by decide +kernel⟩, List.mem_of_getElem? (i := 558) (by decide +kernel), List.mem_of_getElem? (i := 810) (by decide +kernel), List.mem_of_getElem? (i := 811) (by decide +kernel)⟩
theorem lw_p51 : lw_okq (⟨"RainReadModel", "wetOfAll", "()I"⟩, 34) := ⟨⟨by decide +kernel, by decide +kernel⟩, List.mem_of_getElem? (i := 558) (by decide +kernel), List.mem_of_getElem? (i := 816) (by decide +kernel), List.mem_of_getElem? (i := 817) (by decide +kernel)⟩
theorem lw_p52 : lw_okq (⟨"RainReadModel", "thoseThatHang", "()I"⟩, 34) := ⟨⟨by decide +kernel, by decide +kernel⟩, List.mem_of_getElem? (i := 558) (by decide +kernel), List.mem_of_getElem? (i := 820) (by decide +kernel), List.mem_of_getElem? (i := 821) (by decide +kernel)⟩
theorem lw_p53 : lw_okq (⟨"RainReadModel", "thoseOfMud", "()I"⟩, 34) := ⟨⟨by decide +kernel, by decide +kernel⟩, List.mem_of_getElem? (i := 558) (by decide +kernel), List.mem_of_getElem? (i := 824) (by decide +kernel), List.mem_of_getElem? (i := 825) (by decide +kernel)⟩
theorem lw_p54 : lw_okq (⟨"RainReadModel", "bringsBack", "()V"⟩, 34) := ⟨⟨by decide +kernel, by decide +kernel⟩, List.mem_of_getElem? (i := 558) (by decide +kernel), List.mem_of_getElem? (i := 828) (by decide +kernel), List.mem_of_getElem? (i := 829) (by decide +kernel)⟩
theorem lw_p55 : lw_okq (⟨"RainReadModel", "beginnings", "()I"⟩, 34) := ⟨⟨by decide +kernel, by decide +kernel⟩, List.mem_of_getElem? (i := 558) (by decide +kernel), List.mem_of_getElem? (i := 837) (by decide +kernel), List.mem_of_getElem? (i := 838) (by decide +kernel)⟩
theorem lw_p56 : lw_okq (⟨"RainReadModel", "begins", "(I)V"⟩, 34) := ⟨⟨by decide +kernel, by decide +kernel⟩, List.mem_of_getElem? (i := 558) (by decide +kernel), List.mem_of_getElem? (i := 841) (by decide +kernel), List.mem_of_getElem? (i := 842) (by decide +kernel)⟩
theorem lw_p57 : lw_okq (⟨"RainReadModel", "startIn", "(II)I"⟩, 34) := ⟨⟨by decide +kernel, by decide +kernel⟩, List.mem_of_getElem? (i := 558) (by decide +kernel), List.mem_of_getElem? (i := 845) (by decide +kernel), List.mem_of_getElem? (i := 846) (by decide +kernel)⟩
theorem lw_p58 : lw_okq (⟨"RainReadModel", "areSaved", "(II)Z"⟩, 34) := ⟨⟨by decide +kernel, by decide +kernel⟩, List.mem_of_getElem? (i := 558) (by decide +kernel), List.mem_of_getElem? (i := 866) (by decide +kernel), List.mem_of_getElem? (i := 867) (by decide +kernel)⟩
theorem lw_p59 : lw_okq (⟨"RainReadModel", "pain", "(IIIII)I"⟩, 34) := ⟨⟨by decide +kernel, by decide +kernel⟩, List.mem_of_getElem? (i := 558) (by decide +kernel), List.mem_of_getElem? (i := 881) (by decide +kernel), List.mem_of_getElem? (i := 882) (by decide +kernel)⟩
theorem lw_p60 : lw_okq (⟨"RainReadModel", "areSo", "()Z"⟩, 34) := ⟨⟨by decide +kernel, by decide +kernel⟩, List.mem_of_getElem? (i := 558) (by decide +kernel), List.mem_of_getElem? (i := 898) (by decide +kernel), List.mem_of_getElem? (i := 899) (by decide +kernel)⟩
theorem lw_p61 : lw_okq (⟨"RainReadModel", "noCell", "(II)I"⟩, 34) := ⟨⟨by decide +kernel, by decide +kernel⟩, List.mem_of_getElem? (i := 558) (by decide +kernel), List.mem_of_getElem? (i := 933) (by decide +kernel), List.mem_of_getElem? (i := 934) (by decide +kernel)⟩
theorem lw_p62 : lw_okq (⟨"RainReadModel", "failedLong", "(I)J"⟩, 34) := ⟨⟨by decide +kernel, by decide +kernel⟩, List.mem_of_getElem? (i := 558) (by decide +kernel), List.mem_of_getElem? (i := 941) (by decide +kernel), List.mem_of_getElem? (i := 942) (by decide +kernel)⟩
theorem lw_p63 : lw_okq (⟨"RainReadModel", "traced", "(I)V"⟩, 34) := ⟨⟨by decide +kernel, by decide +kernel⟩, List.mem_of_getElem? (i := 558) (by decide +kernel), List.mem_of_getElem? (i := 953) (by decide +kernel), List.mem_of_getElem? (i := 954) (by decide +kernel)⟩
def lw_privs_4 : List (MethodName × Nat) := [(⟨"RainReadModel", "keeps", "()V"⟩, 34), (⟨"RainReadModel", "dayOf", "(III)I"⟩, 34), (⟨"RainReadModel", "doesPair", "(II)Z"⟩, 34), (⟨"RainReadModel", "wetOfAll", "()I"⟩, 34), (⟨"RainReadModel", "thoseThatHang", "()I"⟩, 34), (⟨"RainReadModel", "thoseOfMud", "()I"⟩, 34), (⟨"RainReadModel", "bringsBack", "()V"⟩, 34), (⟨"RainReadModel", "beginnings", "()I"⟩, 34), (⟨"RainReadModel", "begins", "(I)V"⟩, 34), (⟨"RainReadModel", "startIn", "(II)I"⟩, 34), (⟨"RainReadModel", "areSaved", "(II)Z"⟩, 34), (⟨"RainReadModel", "pain", "(IIIII)I"⟩, 34), (⟨"RainReadModel", "areSo", "()Z"⟩, 34), (⟨"RainReadModel", "noCell", "(II)I"⟩, 34), (⟨"RainReadModel", "failedLong", "(I)J"⟩, 34), (⟨"RainReadModel", "traced", "(I)V"⟩, 34)]
theorem lw_r4 : ∀ q ∈ lw_privs_4, lw_okq q := List.forall_mem_cons.mpr ⟨lw_p48, List.forall_mem_cons.mpr ⟨lw_p49, List.forall_mem_cons.mpr ⟨lw_p50, List.forall_mem_cons.mpr ⟨lw_p51, List.forall_mem_cons.mpr ⟨lw_p52, List.forall_mem_cons.mpr ⟨lw_p53, List.forall_mem_cons.mpr ⟨lw_p54, List.forall_mem_cons.mpr ⟨lw_p55, List.forall_mem_cons.mpr ⟨lw_p56, List.forall_mem_cons.mpr ⟨lw_p57, List.forall_mem_cons.mpr ⟨lw_p58, List.forall_mem_cons.mpr ⟨lw_p59, List.forall_mem_cons.mpr ⟨lw_p60, List.forall_mem_cons.mpr ⟨lw_p61, List.forall_mem_cons.mpr ⟨lw_p62, List.forall_mem_cons.mpr ⟨lw_p63, fun _ h => absurd h List.not_mem_nil⟩⟩⟩⟩⟩⟩⟩⟩⟩⟩⟩⟩⟩⟩⟩⟩
def lw_privs : List (MethodName × Nat) := lw_privs_1 ++ (lw_privs_2 ++ (lw_privs_3 ++ (lw_privs_4)))
def lw_tbl : List Cond := k2_sels lw_privs ++ tables_1
theorem lw_privs_ok : ∀ q ∈ lw_privs, lw_okq q := by
  show ∀ q ∈ lw_privs_1 ++ (lw_privs_2 ++ (lw_privs_3 ++ (lw_privs_4))), lw_okq q
  exact List.forall_mem_append.mpr ⟨lw_r1, List.forall_mem_append.mpr ⟨lw_r2, List.forall_mem_append.mpr ⟨lw_r3, lw_r4⟩⟩⟩
-- ===== end of PART A; then your names; then what follows =====
end
section
/-! ===== A small machine of its own: ints in numbered cells, a fixed layout, no making. Its steps by a table of entries (pc, next, op, j, k, n, c, w). What it can do, the real machine does (part 05). ===== -/
abbrev m_D : Type := Nat → Nat → Int32
abbrev m_Lc : Type := List (Option Value)
abbrev m_St : Type := Nat × m_Lc × List Value × m_D
abbrev m_E : Type := Nat × Nat × Nat × Nat × Nat × Int × Int32 × Int64
abbrev m_Sh : Type := Nat ⊕ (List Nat ⊕ (Nat × List (Option Nat)))
abbrev m_K : Type := Option Value → m_D → Prop
/-- an entry with an int, and one with a long -/
def m_e (pc nx op j k : Nat) (n : Int) (c : Int32) : m_E := (pc, nx, op, j, k, n, c, 0)
def m_el (pc nx op j k : Nat) (w : Int64) : m_E := (pc, nx, op, j, k, 0, 0, w)
/-- the cells: an array of so many ints; the row of the four sheets; an object of a kind, its references (none: an int) -/
def m_shw (b : Nat) : m_Sh := .inr (.inr (2, [none, none, some (b + 1), some (b + 2), some (b + 3), some (b + 4), some (b + 5), some (b + 6)]))
def m_she (b : Nat) : m_Sh := .inr (.inr (1, [some (b + 1), none, none, none]))
def m_shp : List m_Sh := [
  .inr (.inr (4, [some 1, some 8, some 15, some 21, some 23, some 32, some 33, none, none, none])),
  .inr (.inr (2, [none, none, some 2, some 3, some 4, some 5, some 6, some 7])), .inl 6, .inl 6, .inl 3, .inl 3, .inl 3, .inl 6,
  .inr (.inr (2, [none, none, some 9, some 10, some 11, some 12, some 13, some 14])), .inl 6, .inl 6, .inl 3, .inl 3, .inl 3, .inl 6,
  .inr (.inr (0, [some 16, some 17, some 18, some 19, some 20, none, none, none])), .inl 6, .inl 6, .inl 6, .inl 24, .inl 4,
  .inr (.inr (3, [some 22, none, none])), .inl 60,
  .inr (.inl [24, 26, 28, 30]),
  .inr (.inr (1, [some 25, none, none, none])), .inl 60, .inr (.inr (1, [some 27, none, none, none])), .inl 60, .inr (.inr (1, [some 29, none, none, none])), .inl 60, .inr (.inr (1, [some 31, none, none, none])), .inl 60,
  .inl 8, .inl 8,
  .inr (.inr (5, [none, none, none, some 35, some 36, some 37, some 38, some 39, some 40, none, none, none, some 41, some 42, some 43, some 44, some 45, some 46, some 47, some 48, some 49, some 50, none, some 51, some 52, some 53, none, some 54, some 55, some 56, some 57, some 58, some 59, none])),
  .inl 6, .inl 6, .inl 3, .inl 3, .inl 3, .inl 4, .inl 6, .inl 6, .inl 3, .inl 3, .inl 3, .inl 6, .inl 6, .inl 6, .inl 24, .inl 4, .inl 6, .inl 3, .inl 4, .inl 8, .inl 8, .inl 4, .inl 4, .inl 240, .inl 60]
def m_up (D : m_D) (i j : Nat) (v : Int32) : m_D := fun a => if a = i then upd (D i) j v else D a
def m_cp (D : m_D) (a0 a1 sp dp n : Nat) : m_D := fun a => if a = a1 then va_cpy (D a0) (D a1) sp dp n else D a
def m_find : List m_E → Nat → Option m_E
  | [], _ => none
  | e :: t, pc => match Nat.beq e.1 pc with
    | true => some e
    | false => m_find t pc
def m_get {β : Type} : m_Lc → Nat → (Value → Option β) → Option β
  | [], _, _ => none
  | none :: _, 0, _ => none
  | some v :: _, 0, f => f v
  | _ :: t, n + 1, f => m_get t n f
/-- a value of one word goes into a place; a long ahead of it is no more -/
def m_set {β : Type} : m_Lc → Nat → Value → (m_Lc → Option β) → Option β
  | [], _, _, _ => none
  | _ :: t, 0, v, f => f (some v :: t)
  | some (.long _) :: t, 1, v, f => m_set t 0 v (fun t' => f (none :: t'))
  | some (.double _) :: t, 1, v, f => m_set t 0 v (fun t' => f (none :: t'))
  | o :: t, n + 1, v, f => m_set t n v (fun t' => f (o :: t'))
def m_set2 {β : Type} : m_Lc → Nat → Value → (m_Lc → Option β) → Option β
  | [], _, _, _ => none
  | [_], _, _, _ => none
  | _ :: _ :: t, 0, v, f => f (some v :: none :: t)
  | some (.long _) :: t, 1, v, f => m_set2 t 0 v (fun t' => f (none :: t'))
  | some (.double _) :: t, 1, v, f => m_set2 t 0 v (fun t' => f (none :: t'))
  | o :: t, n + 1, v, f => m_set2 t n v (fun t' => f (o :: t'))
def m_bin (k : Nat) (x y : Int32) : Option Int32 := match k with
  | 0 => some (x + y)
  | 1 => some (x - y)
  | 2 => some (x * y)
  | 3 => some (x &&& y)
  | 4 => some (x ||| y)
  | 5 => some (x ^^^ y)
  | 6 => some (x <<< (y &&& 31))
  | 7 => some (x >>> (y &&& 31))
  | 8 => some ((x.toUInt32 >>> (y.toUInt32 &&& Int32.toUInt32 31)).toInt32)
  | _ => none
def m_lbin (k : Nat) (x y : Int64) : Option Int64 := match k with
  | 0 => some (x + y)
  | 1 => some (x - y)
  | 2 => some (x * y)
  | _ => none
/-- what a field of a cell holds: a cell's number, or an int -/
def m_fld {β : Type} (a ci k : Nat) (f : Option Nat → Option β) : Option β := match m_shp[a]? with
  | some (.inr (.inr (ci', fs))) => match Nat.beq ci' ci with
    | true => match fs[k]? with
      | some o => f o
      | none => none
    | false => none
  | _ => none
def m_one : Value → Bool
  | .int _ => true
  | .ref _ => true
  | _ => false
/-- one step of straight code -/
def m_ex (e : m_E) (lc : m_Lc) (st : List Value) (D : m_D) : Option m_St := match e with
  | (_, nx, op, j, k, n, c, w) => match op with
    | 0 => some (nx, lc, .int c :: st, D)
    | 1 => some (nx, lc, .long w :: st, D)
    | 2 => m_get lc j (fun v => match v with
      | .int x => some (nx, lc, .int x :: st, D)
      | _ => none)
    | 3 => m_get lc j (fun v => match v with
      | .long x => some (nx, lc, .long x :: st, D)
      | _ => none)
    | 4 => m_get lc j (fun v => match v with
      | .ref x => some (nx, lc, .ref x :: st, D)
      | _ => none)
    | 5 => match st with
      | .int x :: st' => m_set lc j (.int x) (fun lc' => some (nx, lc', st', D))
      | _ => none
    | 6 => match st with
      | .long x :: st' => m_set2 lc j (.long x) (fun lc' => some (nx, lc', st', D))
      | _ => none
    | 7 => match st with
      | .ref x :: st' => m_set lc j (.ref x) (fun lc' => some (nx, lc', st', D))
      | _ => none
    | 8 => m_get lc j (fun v => match v with
      | .int x => m_set lc j (.int (x + c)) (fun lc' => some (nx, lc', st, D))
      | _ => none)
    | 9 => match st with
      | .int y :: .int x :: st' => match m_bin k x y with
        | some z => some (nx, lc, .int z :: st', D)
        | none => none
      | _ => none
    | 10 => match st with
      | .long y :: .long x :: st' => match m_lbin k x y with
        | some z => some (nx, lc, .long z :: st', D)
        | none => none
      | _ => none
    | 11 => match st with
      | .int x :: st' => some (nx, lc, .long x.toInt64 :: st', D)
      | _ => none
    | 12 => match st with
      | .int x :: st' => some (nx, lc, .int x.toInt8.toInt32 :: st', D)
      | _ => none
    | 13 => match st with
      | .int x :: st' => some (nx, lc, .int x.toInt16.toInt32 :: st', D)
      | _ => none
    | 14 => match st with
      | .long y :: .long x :: st' => some (nx, lc, .int (lg_cmp x y) :: st', D)
      | _ => none
    | 15 => match st with
      | v :: st' => match m_one v with
        | true => some (nx, lc, v :: v :: st', D)
        | false => none
      | _ => none
    | 16 => match st with
      | v :: u :: st' => match m_one v with
        | true => match m_one u with
          | true => some (nx, lc, v :: u :: v :: u :: st', D)
          | false => none
        | false => none
      | _ => none
    | 17 => match st with
      | .ref a :: st' => m_fld a n.toNat k (fun o => match o with
        | some q => some (nx, lc, .ref q :: st', D)
        | none => some (nx, lc, .int (D a k) :: st', D))
      | _ => none
    | 18 => match st with
      | .int x :: .ref a :: st' => m_fld a n.toNat k (fun o => match o with
        | some _ => none
        | none => some (nx, lc, st', m_up D a k x))
      | _ => none
    | 19 => some (j, lc, st, D)
    | _ => none
def m_go (tb : List m_E) (σ : m_St) : Option m_St := match σ with
  | (pc, lc, st, D) => match m_find tb pc with
    | some e => m_ex e lc st D
    | none => none
def m_c1 (k : Nat) (x : Int32) : Option Prop := match k with
  | 0 => some (x = 0)
  | 1 => some (¬ x = 0)
  | 2 => some (x < 0)
  | 3 => some (0 ≤ x)
  | 4 => some (0 < x)
  | 5 => some (x ≤ 0)
  | _ => none
def m_c2 (k : Nat) (x y : Int32) : Option Prop := match k with
  | 0 => some (x = y)
  | 1 => some (¬ x = y)
  | 2 => some (x < y)
  | 3 => some (y ≤ x)
  | 4 => some (y < x)
  | 5 => some (x ≤ y)
  | _ => none
/-- a branch: if so, there; if not, on -/
def m_br (tb : List m_E) (σ : m_St) : Option (Prop × m_St × m_St) := match σ with
  | (pc, lc, st, D) => match m_find tb pc with
    | some (_, nx, op, j, k, _, _, _) => match op with
      | 20 => match st with
        | .int x :: st' => match m_c1 k x with
          | some q => some (q, (j, lc, st', D), (nx, lc, st', D))
          | none => none
        | _ => none
      | 21 => match st with
        | .int y :: .int x :: st' => match m_c2 k x y with
          | some q => some (q, (j, lc, st', D), (nx, lc, st', D))
          | none => none
        | _ => none
      | _ => none
    | none => none
def m_len {β : Type} (L a : Nat) (f : Nat → Option β) : Option β := match Nat.beq a 60 with
  | true => f L
  | false => match m_shp[a]? with
    | some (.inl n) => f n
    | _ => none
/-- a step that asks something first -/
def m_sd (L dp : Nat) (tb : List m_E) (σ : m_St) : Option (Prop × m_St) := match σ with
  | (pc, lc, st, D) => match m_find tb pc with
    | some (_, nx, op, _, k, n, _, _) => match op with
      | 30 => match st with
        | .int i :: .ref a :: st' => m_len L a (fun z => some (vp_in i z, (nx, lc, .int (D a i.toNatClampNeg) :: st', D)))
        | _ => none
      | 31 => match st with
        | .int x :: .int i :: .ref a :: st' => match m_shp[a]? with
          | some (.inl z) => some (vp_in i z, (nx, lc, st', m_up D a i.toNatClampNeg x))
          | _ => none
        | _ => none
      | 33 => match st with
        | .ref a :: st' => m_len L a (fun z => some (True, (nx, lc, .int (Int32.ofNat z) :: st', D)))
        | _ => none
      | 34 => match st with
        | .int y :: .int x :: st' => some (¬ y = 0, (nx, lc, .int (x / y) :: st', D))
        | _ => none
      | 35 => match st with
        | .int y :: .int x :: st' => some (¬ y = 0, (nx, lc, .int (x - x / y * y) :: st', D))
        | _ => none
      | 36 => match st with
        | .long y :: .long x :: st' => some (¬ y = 0, (nx, lc, .long (x / y) :: st', D))
        | _ => none
      | 37 => match st with
        | .long y :: .long x :: st' => some (¬ y = 0, (nx, lc, .long (x - x / y * y) :: st', D))
        | _ => none
      | 38 => match st with
        | .int x :: .ref a :: st' => m_fld a n.toNat k (fun o => match o with
          | some _ => none
          | none => some (x = 0 ∨ x = 1, (nx, lc, st', m_up D a k x)))
        | _ => none
      | 39 => match dp with
        | 0 => none
        | _ + 1 => match st with
          | .int z :: .int dq :: .ref a1 :: .int sp :: .ref a0 :: st' => match m_shp[a0]? with
            | some (.inl n0) => match m_shp[a1]? with
              | some (.inl n1) => match st' with
                | [] => some (¬ sp < 0 ∧ ¬ dq < 0 ∧ ¬ z < 0 ∧ sp.toNatClampNeg + z.toNatClampNeg ≤ n0 ∧ dq.toNatClampNeg + z.toNatClampNeg ≤ n1, (nx, lc, [], m_cp D a0 a1 sp.toNatClampNeg dq.toNatClampNeg z.toNatClampNeg))
                | _ => none
              | _ => none
            | _ => none
          | _ => none
      | _ => none
    | none => none
/-- a sheet out of the row of sheets: which one, is asked -/
def m_al (tb : List m_E) (σ : m_St) : Option (Int32 × List Nat × (Nat → m_St)) := match σ with
  | (pc, lc, st, D) => match m_find tb pc with
    | some (_, nx, op, _, _, _, _, _) => match op with
      | 32 => match st with
        | .int i :: .ref a :: st' => match m_shp[a]? with
          | some (.inr (.inl js)) => some (i, js, fun q => (nx, lc, .ref q :: st', D))
          | _ => none
        | _ => none
      | _ => none
    | none => none
def m_pop {β : Type} : Nat → List Value → List Value → (List Value → List Value → Option β) → Option β
  | 0, acc, st, f => f acc st
  | _ + 1, _, [], _ => none
  | n + 1, acc, v :: st, f => m_pop n (v :: acc) st f
def m_cats : List Value → Nat
  | [] => 0
  | .long _ :: t => m_cats t + 2
  | .double _ :: t => m_cats t + 2
  | _ :: t => m_cats t + 1
/-- behind a call -/
def m_beh (nx : Nat) (lc : m_Lc) (st : List Value) (r : Option Value) (D : m_D) : m_St := match r with
  | none => (nx, lc, st, D)
  | some v => (nx, lc, v :: st, D)
/-- a call: of which method, with what, the words that wait, where it goes on -/
def m_ca (tb : List m_E) (σ : m_St) : Option (Nat × List Value × m_D × (Option Value → m_D → m_St)) := match σ with
  | (pc, lc, st, D) => match m_find tb pc with
    | some (_, nx, op, _, k, n, _, _) => match op with
      | 40 => m_pop (n.toNat % 16 + 1) [] st (fun as st' => match as with
        | .ref a :: as' => match m_shp[a]? with
          | some (.inr (.inr (ci, _))) => match Nat.beq ci (n.toNat / 16) with
            | true => match Nat.ble (m_cats st') 8 with
              | true => some (k, .ref a :: as', D, fun r D' => m_beh nx lc st' r D')
              | false => none
            | false => none
          | _ => none
        | _ => none)
      | 41 => m_pop n.toNat [] st (fun as st' => match Nat.ble (m_cats st') 8 with
        | true => some (k, as, D, fun r D' => m_beh nx lc st' r D')
        | false => none)
      | _ => none
    | none => none
/-- the end: 0 nothing, 1 an int, 2 a boolean, 3 a long -/
def m_rt (tb : List m_E) (rk : Nat) (σ : m_St) : Option (Prop × Option Value × m_D) := match σ with
  | (pc, _, st, D) => match m_find tb pc with
    | some (_, _, op, _, _, _, _, _) => match op with
      | 50 => match rk with
        | 0 => match st with
          | [] => some (True, none, D)
          | _ => none
        | _ => none
      | 51 => match st with
        | [.int v] => match rk with
          | 1 => some (True, some (.int v), D)
          | 2 => some (v = 0 ∨ v = 1, some (.int v), D)
          | _ => none
        | _ => none
      | 52 => match rk with
        | 3 => match st with
          | [.long v] => some (True, some (.long v), D)
          | _ => none
        | _ => none
      | _ => none
    | none => none
/-- of many cases the one that is so -/
def m_cs (X : Nat → Prop) (x : Int32) (d : Nat) : List (Int32 × Nat) → Prop
  | [] => X d
  | (v, t) :: r => (x = v → X t) ∧ (¬ x = v → m_cs X x d r)
end
section
/-! ===== the program as tables of entries; written by gen.py out of the printed names ===== -/
def t_X0_workOut : List m_E := [m_e 0 1 4 0 0 0 0, m_e 1 2 0 0 0 0 0, m_e 2 5 18 27 5 0 0, m_e 5 6 4 0 0 0 0, m_e 6 7 0 0 0 0 0, m_e 7 10 18 31 6 0 0, m_e 10 11 4 0 0 0 0, m_e 11 12 0 0 0 0 0, m_e 12 15 18 34 7 0 0, m_e 15 16 4 0 0 0 0, m_e 16 19 17 21 3 0 0, m_e 19 20 0 0 0 0 0, m_e 20 23 41 37 167 2 0, m_e 23 24 4 0 0 0 0, m_e 24 27 17 24 4 0 0, m_e 27 28 0 0 0 0 0, m_e 28 31 41 37 167 2 0, m_e 31 32 0 0 0 0 0, m_e 32 33 5 2 0 0 0, m_e 33 34 2 2 0 0 0, m_e 34 35 4 1 0 0 0, m_e 35 38 17 43 0 2 0, m_e 38 41 21 59 3 21 0, m_e 41 42 4 0 0 0 0, m_e 42 43 4 1 0 0 0, m_e 43 44 2 2 0 0 0, m_e 44 47 40 48 1 2 0, m_e 47 48 4 0 0 0 0, m_e 48 49 4 1 0 0 0, m_e 49 50 2 2 0 0 0, m_e 50 53 40 52 2 2 0, m_e 53 56 8 2 0 1 1, m_e 56 59 19 33 0 (-23) 0, m_e 59 60 50 0 0 0 0]
def t_X0_findReader : List m_E := [m_e 0 2 0 0 1 (-9) (-9), m_e 2 3 5 3 0 0 0, m_e 3 5 0 0 1 (-9) (-9), m_e 5 7 5 4 1 0 0, m_e 7 8 0 0 0 0 0, m_e 8 10 5 5 1 0 0, m_e 10 12 2 5 1 0 0, m_e 12 13 4 1 0 0 0, m_e 13 16 17 55 1 2 0, m_e 16 19 21 80 3 64 0, m_e 19 20 4 1 0 0 0, m_e 20 22 2 5 1 0 0, m_e 22 23 2 2 0 0 0, m_e 23 26 40 58 13 34 0, m_e 26 28 5 6 1 0 0, m_e 28 30 2 6 1 0 0, m_e 30 32 0 0 1 (-9) (-9), m_e 32 35 21 57 0 25 0, m_e 35 36 2 3 0 0 0, m_e 36 38 0 0 1 (-9) (-9), m_e 38 41 21 47 0 9 0, m_e 41 43 2 6 1 0 0, m_e 43 44 2 3 0 0 0, m_e 44 47 21 57 3 13 0, m_e 47 49 2 6 1 0 0, m_e 49 50 5 3 0 0 0, m_e 50 52 2 5 1 0 0, m_e 52 54 5 4 1 0 0, m_e 54 57 19 74 0 20 0, m_e 57 59 2 6 1 0 0, m_e 59 61 0 0 1 (-9) (-9), m_e 61 64 21 74 0 13 0, m_e 64 66 2 6 1 0 0, m_e 66 67 2 3 0 0 0, m_e 67 70 21 74 1 7 0, m_e 70 72 0 0 1 (-9) (-9), m_e 72 74 5 4 1 0 0, m_e 74 77 8 5 0 1 1, m_e 77 80 19 10 0 (-67) 0, m_e 80 81 4 0 0 0 0, m_e 81 84 17 9 0 0 0, m_e 84 85 2 2 0 0 0, m_e 85 86 2 3 0 0 0, m_e 86 87 31 0 0 0 0, m_e 87 88 4 0 0 0 0, m_e 88 91 17 15 1 0 0, m_e 91 92 2 2 0 0 0, m_e 92 94 2 4 1 0 0, m_e 94 95 31 0 0 0 0, m_e 95 96 50 0 0 0 0]
def t_X0_bringDown : List m_E := [m_e 0 1 4 0 0 0 0, m_e 1 4 17 9 0 0 0, m_e 4 5 2 2 0 0 0, m_e 5 6 30 0 0 0 0, m_e 6 7 5 3 0 0 0, m_e 7 8 4 0 0 0 0, m_e 8 11 17 18 2 0 0, m_e 11 12 2 2 0 0 0, m_e 12 13 0 0 0 0 0, m_e 13 14 31 0 0 0 0, m_e 14 15 2 3 0 0 0, m_e 15 17 0 0 1 (-9) (-9), m_e 17 20 21 33 1 16 0, m_e 20 21 4 0 0 0 0, m_e 21 22 15 0 0 0 0, m_e 22 25 17 27 5 0 0, m_e 25 26 0 0 0 1 1, m_e 26 27 2 2 0 0 0, m_e 27 28 9 0 6 0 0, m_e 28 29 9 0 4 0 0, m_e 29 32 18 27 5 0 0, m_e 32 33 50 0 0 0 0, m_e 33 34 4 0 0 0 0, m_e 34 37 17 15 1 0 0, m_e 37 38 2 2 0 0 0, m_e 38 39 30 0 0 0 0, m_e 39 41 0 0 1 (-9) (-9), m_e 41 44 21 57 1 16 0, m_e 44 45 4 0 0 0 0, m_e 45 46 15 0 0 0 0, m_e 46 49 17 31 6 0 0, m_e 49 50 0 0 0 1 1, m_e 50 51 2 2 0 0 0, m_e 51 52 9 0 6 0 0, m_e 52 53 9 0 4 0 0, m_e 53 56 18 31 6 0 0, m_e 56 57 50 0 0 0 0, m_e 57 58 4 0 0 0 0, m_e 58 61 17 18 2 0 0, m_e 61 62 2 2 0 0 0, m_e 62 63 4 1 0 0 0, m_e 63 64 4 0 0 0 0, m_e 64 67 17 15 1 0 0, m_e 67 68 2 2 0 0 0, m_e 68 69 30 0 0 0 0, m_e 69 70 4 1 0 0 0, m_e 70 73 17 62 2 2 0, m_e 73 74 2 2 0 0 0, m_e 74 75 30 0 0 0 0, m_e 75 78 40 65 14 34 0, m_e 78 79 31 0 0 0 0, m_e 79 80 4 1 0 0 0, m_e 80 81 4 1 0 0 0, m_e 81 84 17 68 3 2 0, m_e 84 85 2 2 0 0 0, m_e 85 86 30 0 0 0 0, m_e 86 87 2 3 0 0 0, m_e 87 90 40 71 18 34 0, m_e 90 92 5 4 1 0 0, m_e 92 94 2 4 1 0 0, m_e 94 96 0 0 1 (-9) (-9), m_e 96 99 21 115 1 19 0, m_e 99 100 4 0 0 0 0, m_e 100 101 15 0 0 0 0, m_e 101 104 17 34 7 0 0, m_e 104 105 4 0 0 0 0, m_e 105 108 17 18 2 0 0, m_e 108 109 2 2 0 0 0, m_e 109 110 30 0 0 0 0, m_e 110 111 9 0 0 0 0, m_e 111 114 18 34 7 0 0, m_e 114 115 50 0 0 0 0, m_e 115 116 4 0 0 0 0, m_e 116 119 17 21 3 0 0, m_e 119 121 2 4 1 0 0, m_e 121 123 0 0 1 6 6, m_e 123 124 9 0 2 0 0, m_e 124 125 2 3 0 0 0, m_e 125 126 9 0 0 0 0, m_e 126 127 16 0 0 0 0, m_e 127 128 30 0 0 0 0, m_e 128 129 4 0 0 0 0, m_e 129 132 17 18 2 0 0, m_e 132 133 2 2 0 0 0, m_e 133 134 30 0 0 0 0, m_e 134 135 9 0 0 0 0, m_e 135 136 31 0 0 0 0, m_e 136 137 4 0 0 0 0, m_e 137 140 17 24 4 0 0, m_e 140 142 2 4 1 0 0, m_e 142 143 16 0 0 0 0, m_e 143 144 30 0 0 0 0, m_e 144 145 4 0 0 0 0, m_e 145 148 17 18 2 0 0, m_e 148 149 2 2 0 0 0, m_e 149 150 30 0 0 0 0, m_e 150 151 9 0 0 0 0, m_e 151 152 31 0 0 0 0, m_e 152 153 50 0 0 0 0]
def t_X0_linesBy : List m_E := [m_e 0 1 0 0 0 0 0, m_e 1 2 5 3 0 0 0, m_e 2 3 0 0 0 0 0, m_e 3 5 5 4 1 0 0, m_e 5 7 2 4 1 0 0, m_e 7 8 2 2 0 0 0, m_e 8 11 21 39 3 31 0, m_e 11 12 2 3 0 0 0, m_e 12 13 4 0 0 0 0, m_e 13 16 17 15 1 0 0, m_e 16 18 2 4 1 0 0, m_e 18 19 30 0 0 0 0, m_e 19 20 2 1 0 0 0, m_e 20 23 21 30 1 10 0, m_e 23 24 0 0 0 1 1, m_e 24 26 2 4 1 0 0, m_e 26 27 9 0 6 0 0, m_e 27 30 19 31 0 4 0, m_e 30 31 0 0 0 0 0, m_e 31 32 9 0 4 0 0, m_e 32 33 5 3 0 0 0, m_e 33 36 8 4 0 1 1, m_e 36 39 19 5 0 (-31) 0, m_e 39 40 2 3 0 0 0, m_e 40 41 51 0 0 0 0]
def t_X0_wetOfAll : List m_E := [m_e 0 1 0 0 0 0 0, m_e 1 2 5 1 0 0 0, m_e 2 3 0 0 0 0 0, m_e 3 4 5 2 0 0 0, m_e 4 5 2 2 0 0 0, m_e 5 6 0 0 0 4 4, m_e 6 9 21 24 3 18 0, m_e 9 10 2 1 0 0 0, m_e 10 11 4 0 0 0 0, m_e 11 14 17 24 4 0 0, m_e 14 15 2 2 0 0 0, m_e 15 16 30 0 0 0 0, m_e 16 17 9 0 0 0 0, m_e 17 18 5 1 0 0 0, m_e 18 21 8 2 0 1 1, m_e 21 24 19 4 0 (-17) 0, m_e 24 25 2 1 0 0 0, m_e 25 26 51 0 0 0 0]
def t_X0_wetFields : List m_E := [m_e 0 1 0 0 0 0 0, m_e 1 2 5 1 0 0 0, m_e 2 3 0 0 0 0 0, m_e 3 4 5 2 0 0 0, m_e 4 5 2 2 0 0 0, m_e 5 6 0 0 0 4 4, m_e 6 9 21 34 3 28 0, m_e 9 10 2 1 0 0 0, m_e 10 11 4 0 0 0 0, m_e 11 14 17 24 4 0 0, m_e 14 15 2 2 0 0 0, m_e 15 16 30 0 0 0 0, m_e 16 19 20 25 5 9 0, m_e 19 20 0 0 0 1 1, m_e 20 21 2 2 0 0 0, m_e 21 22 9 0 6 0 0, m_e 22 25 19 26 0 4 0, m_e 25 26 0 0 0 0 0, m_e 26 27 9 0 4 0 0, m_e 27 28 5 1 0 0 0, m_e 28 31 8 2 0 1 1, m_e 31 34 19 4 0 (-27) 0, m_e 34 35 2 1 0 0 0, m_e 35 36 51 0 0 0 0]
def t_X1_renew : List m_E := [m_e 0 1 4 0 0 0 0, m_e 1 4 17 9 0 1 0, m_e 4 5 0 0 0 0 0, m_e 5 8 41 15 167 2 0, m_e 8 9 4 0 0 0 0, m_e 9 10 0 0 0 1 1, m_e 10 13 38 21 1 1 0, m_e 13 14 4 0 0 0 0, m_e 14 15 2 1 0 0 0, m_e 15 18 18 25 2 1 0, m_e 18 19 4 0 0 0 0, m_e 19 20 2 2 0 0 0, m_e 20 23 18 29 3 1 0, m_e 23 24 50 0 0 0 0]
def t_X1_faultOfTaking : List m_E := [m_e 0 1 4 0 0 0 0, m_e 1 4 17 21 1 1 0, m_e 4 7 20 9 1 5 0, m_e 7 8 0 0 0 1 1, m_e 8 9 51 0 0 0 0, m_e 9 10 4 0 0 0 0, m_e 10 13 17 25 2 1 0, m_e 13 14 2 1 0 0 0, m_e 14 17 21 21 1 7 0, m_e 17 18 0 0 0 0 0, m_e 18 21 19 22 0 4 0, m_e 21 22 0 0 0 2 2, m_e 22 23 51 0 0 0 0]
def t_X1_hasCell : List m_E := [m_e 0 1 2 1 0 0 0, m_e 1 4 20 16 2 15 0, m_e 4 5 2 1 0 0 0, m_e 5 6 4 0 0 0 0, m_e 6 9 17 29 3 1 0, m_e 9 12 21 16 3 7 0, m_e 12 13 0 0 0 1 1, m_e 13 16 19 17 0 4 0, m_e 16 17 0 0 0 0 0, m_e 17 18 51 0 0 0 0]
def t_X1_hasCells : List m_E := [m_e 0 1 2 1 0 0 0, m_e 1 4 20 30 2 29 0, m_e 4 5 2 1 0 0 0, m_e 5 6 4 0 0 0 0, m_e 6 9 17 29 3 1 0, m_e 9 12 21 30 4 21 0, m_e 12 13 2 2 0 0 0, m_e 13 16 20 30 2 17 0, m_e 16 17 2 2 0 0 0, m_e 17 18 4 0 0 0 0, m_e 18 21 17 29 3 1 0, m_e 21 22 2 1 0 0 0, m_e 22 23 9 0 1 0 0, m_e 23 26 21 30 4 7 0, m_e 26 27 0 0 0 1 1, m_e 27 30 19 31 0 4 0, m_e 30 31 0 0 0 0 0, m_e 31 32 51 0 0 0 0]
def t_X1_cut : List m_E := [m_e 0 1 4 0 0 0 0, m_e 1 4 17 25 2 1 0, m_e 4 32 61 38 0 0 0, m_e 32 33 2 1 0 0 0, m_e 33 34 12 0 0 0 0, m_e 34 35 51 0 0 0 0, m_e 35 36 2 1 0 0 0, m_e 36 37 13 0 0 0 0, m_e 37 38 51 0 0 0 0, m_e 38 39 2 1 0 0 0, m_e 39 40 51 0 0 0 0]
def t_X2_clear : List m_E := [m_e 0 1 4 0 0 0 0, m_e 1 2 0 0 0 0 0, m_e 2 5 18 30 0 2 0, m_e 5 6 4 0 0 0 0, m_e 6 7 0 0 0 0 0, m_e 7 10 18 34 1 2 0, m_e 10 11 4 0 0 0 0, m_e 11 14 17 27 7 2 0, m_e 14 15 0 0 0 0 0, m_e 15 18 41 37 167 2 0, m_e 18 19 50 0 0 0 0]
def t_X2_become : List m_E := [m_e 0 1 4 0 0 0 0, m_e 1 2 4 1 0 0 0, m_e 2 5 17 30 0 2 0, m_e 5 8 18 30 0 2 0, m_e 8 9 4 0 0 0 0, m_e 9 10 4 1 0 0 0, m_e 10 13 17 34 1 2 0, m_e 13 16 18 34 1 2 0, m_e 16 17 4 1 0 0 0, m_e 17 20 17 9 2 2 0, m_e 20 21 0 0 0 0 0, m_e 21 22 4 0 0 0 0, m_e 22 25 17 9 2 2 0, m_e 25 26 0 0 0 0 0, m_e 26 28 0 0 1 6 6, m_e 28 31 39 43 0 0 0, m_e 31 32 4 1 0 0 0, m_e 32 35 17 15 3 2 0, m_e 35 36 0 0 0 0 0, m_e 36 37 4 0 0 0 0, m_e 37 40 17 15 3 2 0, m_e 40 41 0 0 0 0 0, m_e 41 43 0 0 1 6 6, m_e 43 46 39 43 0 0 0, m_e 46 47 4 1 0 0 0, m_e 47 50 17 18 4 2 0, m_e 50 51 0 0 0 0 0, m_e 51 52 4 0 0 0 0, m_e 52 55 17 18 4 2 0, m_e 55 56 0 0 0 0 0, m_e 56 57 0 0 0 3 3, m_e 57 60 39 43 0 0 0, m_e 60 61 4 1 0 0 0, m_e 61 64 17 21 5 2 0, m_e 64 65 0 0 0 0 0, m_e 65 66 4 0 0 0 0, m_e 66 69 17 21 5 2 0, m_e 69 70 0 0 0 0 0, m_e 70 71 0 0 0 3 3, m_e 71 74 39 43 0 0 0, m_e 74 75 4 1 0 0 0, m_e 75 78 17 24 6 2 0, m_e 78 79 0 0 0 0 0, m_e 79 80 4 0 0 0 0, m_e 80 83 17 24 6 2 0, m_e 83 84 0 0 0 0 0, m_e 84 85 0 0 0 3 3, m_e 85 88 39 43 0 0 0, m_e 88 89 4 1 0 0 0, m_e 89 92 17 27 7 2 0, m_e 92 93 0 0 0 0 0, m_e 93 94 4 0 0 0 0, m_e 94 97 17 27 7 2 0, m_e 97 98 0 0 0 0 0, m_e 98 100 0 0 1 6 6, m_e 100 103 39 43 0 0 0, m_e 103 104 50 0 0 0 0]
def t_X2_hourOfReading : List m_E := [m_e 0 1 4 0 0 0 0, m_e 1 4 17 21 5 2 0, m_e 4 5 2 1 0 0 0, m_e 5 6 30 0 0 0 0, m_e 6 7 5 3 0 0 0, m_e 7 8 2 2 0 0 0, m_e 8 9 4 0 0 0 0, m_e 9 12 17 24 6 2 0, m_e 12 13 2 1 0 0 0, m_e 13 14 30 0 0 0 0, m_e 14 17 21 22 2 8 0, m_e 17 18 2 3 0 0 0, m_e 18 19 0 0 0 1 1, m_e 19 22 21 27 3 8 0, m_e 22 24 0 0 1 (-9) (-9), m_e 24 27 19 37 0 13 0, m_e 27 28 2 2 0 0 0, m_e 28 29 4 0 0 0 0, m_e 29 32 17 24 6 2 0, m_e 32 33 2 1 0 0 0, m_e 33 34 30 0 0 0 0, m_e 34 35 9 0 1 0 0, m_e 35 36 2 3 0 0 0, m_e 36 37 34 0 0 0 0, m_e 37 38 51 0 0 0 0]
def t_X2_given : List m_E := [m_e 0 1 2 2 0 0 0, m_e 1 2 0 0 0 1 1, m_e 2 3 9 0 1 0 0, m_e 3 4 0 0 0 0 0, m_e 4 7 41 49 168 2 0, m_e 7 8 5 3 0 0 0, m_e 8 9 4 0 0 0 0, m_e 9 12 17 18 4 2 0, m_e 12 13 2 1 0 0 0, m_e 13 14 30 0 0 0 0, m_e 14 40 61 44 1 0 0, m_e 40 41 2 2 0 0 0, m_e 41 42 51 0 0 0 0, m_e 42 43 2 3 0 0 0, m_e 43 44 51 0 0 0 0, m_e 44 45 2 3 0 0 0, m_e 45 46 2 2 0 0 0, m_e 46 47 9 0 0 0 0, m_e 47 48 51 0 0 0 0]
def t_X2_coughs : List m_E := [m_e 0 1 4 0 0 0 0, m_e 1 4 17 27 7 2 0, m_e 4 5 2 2 0 0 0, m_e 5 6 30 0 0 0 0, m_e 6 7 2 1 0 0 0, m_e 7 8 9 0 7 0 0, m_e 8 9 0 0 0 1 1, m_e 9 10 9 0 3 0 0, m_e 10 11 0 0 0 1 1, m_e 11 14 21 18 1 7 0, m_e 14 15 0 0 0 1 1, m_e 15 18 19 19 0 4 0, m_e 18 19 0 0 0 0 0, m_e 19 20 51 0 0 0 0]
def t_X2_turnCough : List m_E := [m_e 0 1 4 0 0 0 0, m_e 1 4 17 27 7 2 0, m_e 4 5 2 2 0 0 0, m_e 5 6 16 0 0 0 0, m_e 6 7 30 0 0 0 0, m_e 7 8 0 0 0 1 1, m_e 8 9 2 1 0 0 0, m_e 9 10 9 0 6 0 0, m_e 10 11 9 0 5 0 0, m_e 11 12 31 0 0 0 0, m_e 12 13 50 0 0 0 0]
def t_X2_coughCount : List m_E := [m_e 0 1 0 0 0 0 0, m_e 1 2 5 1 0 0 0, m_e 2 3 0 0 0 0 0, m_e 3 4 5 2 0 0 0, m_e 4 5 2 2 0 0 0, m_e 5 7 0 0 1 6 6, m_e 7 10 21 28 3 21 0, m_e 10 11 2 1 0 0 0, m_e 11 12 4 0 0 0 0, m_e 12 15 17 27 7 2 0, m_e 15 16 2 2 0 0 0, m_e 16 17 30 0 0 0 0, m_e 17 20 41 55 166 1 0, m_e 20 21 9 0 0 0 0, m_e 21 22 5 1 0 0 0, m_e 22 25 8 2 0 1 1, m_e 25 28 19 4 0 (-21) 0, m_e 28 29 2 1 0 0 0, m_e 29 30 51 0 0 0 0]
def t_X2_goesTo : List m_E := [m_e 0 1 4 0 0 0 0, m_e 1 2 2 1 0 0 0, m_e 2 3 2 2 0 0 0, m_e 3 6 40 61 15 34 0, m_e 6 9 20 11 1 5 0, m_e 9 10 2 1 0 0 0, m_e 10 11 51 0 0 0 0, m_e 11 12 2 1 0 0 0, m_e 12 13 0 0 0 1 1, m_e 13 14 9 0 0 0 0, m_e 14 15 0 0 0 4 4, m_e 15 16 35 0 0 0 0, m_e 16 17 5 3 0 0 0, m_e 17 18 4 0 0 0 0, m_e 18 19 2 3 0 0 0, m_e 19 20 2 2 0 0 0, m_e 20 23 40 61 15 34 0, m_e 23 26 20 31 0 8 0, m_e 26 28 0 0 1 (-9) (-9), m_e 28 31 19 32 0 4 0, m_e 31 32 2 3 0 0 0, m_e 32 33 51 0 0 0 0]
def t_X2_beginnings : List m_E := [m_e 0 1 0 0 0 1 1, m_e 1 2 5 1 0 0 0, m_e 2 3 0 0 0 0 0, m_e 3 4 5 2 0 0 0, m_e 4 5 2 2 0 0 0, m_e 5 6 4 0 0 0 0, m_e 6 9 17 34 1 2 0, m_e 9 12 21 25 3 16 0, m_e 12 13 2 1 0 0 0, m_e 13 14 4 0 0 0 0, m_e 14 17 17 30 0 2 0, m_e 17 18 9 0 2 0 0, m_e 18 19 5 1 0 0 0, m_e 19 22 8 2 0 1 1, m_e 22 25 19 4 0 (-18) 0, m_e 25 26 2 1 0 0 0, m_e 26 27 51 0 0 0 0]
def t_X2_beginBy : List m_E := [m_e 0 1 4 0 0 0 0, m_e 1 4 17 30 0 2 0, m_e 4 5 0 0 0 1 1, m_e 5 8 21 9 3 4 0, m_e 8 9 50 0 0 0 0, m_e 9 10 2 1 0 0 0, m_e 10 11 5 2 0 0 0, m_e 11 12 4 0 0 0 0, m_e 12 15 17 34 1 2 0, m_e 15 16 0 0 0 1 1, m_e 16 17 9 0 1 0 0, m_e 17 18 5 3 0 0 0, m_e 18 19 2 3 0 0 0, m_e 19 22 20 47 2 28 0, m_e 22 23 4 0 0 0 0, m_e 23 26 17 24 6 2 0, m_e 26 27 2 3 0 0 0, m_e 27 28 2 2 0 0 0, m_e 28 29 4 0 0 0 0, m_e 29 32 17 30 0 2 0, m_e 32 33 35 0 0 0 0, m_e 33 34 31 0 0 0 0, m_e 34 35 2 2 0 0 0, m_e 35 36 4 0 0 0 0, m_e 36 39 17 30 0 2 0, m_e 39 40 34 0 0 0 0, m_e 40 41 5 2 0 0 0, m_e 41 44 8 3 0 (-1) (-1), m_e 44 47 19 18 0 (-26) 0, m_e 47 48 50 0 0 0 0]
def t_X2_does : List m_E := [m_e 0 1 2 2 0 0 0, m_e 1 3 0 0 1 6 6, m_e 3 6 21 25 3 22 0, m_e 6 7 2 2 0 0 0, m_e 7 8 4 0 0 0 0, m_e 8 11 17 30 0 2 0, m_e 11 14 21 16 2 5 0, m_e 14 15 0 0 0 0 0, m_e 15 16 51 0 0 0 0, m_e 16 17 4 0 0 0 0, m_e 17 20 17 9 2 2 0, m_e 20 21 2 2 0 0 0, m_e 21 22 2 1 0 0 0, m_e 22 23 31 0 0 0 0, m_e 23 24 0 0 0 1 1, m_e 24 25 51 0 0 0 0, m_e 25 26 2 2 0 0 0, m_e 26 28 0 0 1 9 9, m_e 28 31 21 64 3 36 0, m_e 31 32 2 2 0 0 0, m_e 32 34 0 0 1 6 6, m_e 34 35 9 0 1 0 0, m_e 35 36 4 0 0 0 0, m_e 36 39 17 34 1 2 0, m_e 39 42 21 50 3 11 0, m_e 42 43 2 1 0 0 0, m_e 43 44 4 0 0 0 0, m_e 44 47 17 30 0 2 0, m_e 47 50 21 52 2 5 0, m_e 50 51 0 0 0 0 0, m_e 51 52 51 0 0 0 0, m_e 52 53 4 0 0 0 0, m_e 53 56 17 24 6 2 0, m_e 56 57 2 2 0 0 0, m_e 57 59 0 0 1 6 6, m_e 59 60 9 0 1 0 0, m_e 60 61 2 1 0 0 0, m_e 61 62 31 0 0 0 0, m_e 62 63 0 0 0 1 1, m_e 63 64 51 0 0 0 0, m_e 64 65 4 0 0 0 0, m_e 65 66 2 2 0 0 0, m_e 66 68 0 0 1 9 9, m_e 68 69 9 0 1 0 0, m_e 69 70 2 1 0 0 0, m_e 70 73 40 65 16 34 0, m_e 73 74 0 0 0 1 1, m_e 74 75 51 0 0 0 0]
def t_X3_firstFault : List m_E := [m_e 0 1 4 1 0 0 0, m_e 1 4 17 15 0 1 0, m_e 4 5 2 2 0 0 0, m_e 5 6 4 0 0 0 0, m_e 6 9 17 9 0 3 0, m_e 9 10 0 0 0 0 0, m_e 10 11 2 3 0 0 0, m_e 11 14 39 20 0 0 0, m_e 14 15 4 0 0 0 0, m_e 15 16 2 3 0 0 0, m_e 16 19 18 26 1 3 0, m_e 19 20 4 0 0 0 0, m_e 20 21 0 0 0 0 0, m_e 21 24 18 30 2 3 0, m_e 24 26 4 4 1 0 0, m_e 26 29 40 33 11 32 0, m_e 29 30 4 0 0 0 0, m_e 30 32 4 4 1 0 0, m_e 32 35 40 38 23 49 0, m_e 35 38 20 43 0 8 0, m_e 38 40 0 0 1 (-9) (-9), m_e 40 43 19 47 0 7 0, m_e 43 44 4 0 0 0 0, m_e 44 47 17 30 2 3 0, m_e 47 48 51 0 0 0 0]
def t_X3_isText : List m_E := [m_e 0 1 4 0 0 0 0, m_e 1 3 0 0 1 115 115, m_e 3 6 40 42 27 49 0, m_e 6 9 20 11 1 5 0, m_e 9 10 0 0 0 0 0, m_e 10 11 51 0 0 0 0, m_e 11 12 0 0 0 0 0, m_e 12 13 5 2 0 0 0, m_e 13 14 2 2 0 0 0, m_e 14 16 0 0 1 6 6, m_e 16 19 21 49 3 33 0, m_e 19 20 2 2 0 0 0, m_e 20 23 20 32 0 12 0, m_e 23 24 4 0 0 0 0, m_e 24 26 0 0 1 44 44, m_e 26 29 40 46 26 49 0, m_e 29 32 20 49 0 20 0, m_e 32 33 4 0 0 0 0, m_e 33 34 4 1 0 0 0, m_e 34 35 2 2 0 0 0, m_e 35 38 40 49 24 50 0, m_e 38 41 20 43 1 5 0, m_e 41 42 0 0 0 0 0, m_e 42 43 51 0 0 0 0, m_e 43 46 8 2 0 1 1, m_e 46 49 19 13 0 (-33) 0, m_e 49 50 0 0 0 0 0, m_e 50 51 5 2 0 0 0, m_e 51 52 2 2 0 0 0, m_e 52 53 0 0 0 3 3, m_e 53 56 21 88 3 35 0, m_e 56 57 2 2 0 0 0, m_e 57 60 20 71 0 14 0, m_e 60 61 4 0 0 0 0, m_e 61 64 17 30 2 3 0, m_e 64 65 4 0 0 0 0, m_e 65 68 17 26 1 3 0, m_e 68 71 21 88 3 20 0, m_e 71 72 4 0 0 0 0, m_e 72 73 4 1 0 0 0, m_e 73 74 2 2 0 0 0, m_e 74 77 40 53 25 50 0, m_e 77 80 20 82 1 5 0, m_e 80 81 0 0 0 0 0, m_e 81 82 51 0 0 0 0, m_e 82 85 8 2 0 1 1, m_e 85 88 19 51 0 (-34) 0, m_e 88 89 4 0 0 0 0, m_e 89 92 17 30 2 3 0, m_e 92 93 4 0 0 0 0, m_e 93 96 17 26 1 3 0, m_e 96 99 21 103 1 7 0, m_e 99 100 0 0 0 1 1, m_e 100 103 19 104 0 4 0, m_e 103 104 0 0 0 0 0, m_e 104 105 51 0 0 0 0]
def t_X3_takesLine : List m_E := [m_e 0 1 4 0 0 0 0, m_e 1 3 0 0 1 44 44, m_e 3 6 40 42 27 49 0, m_e 6 9 20 11 1 5 0, m_e 9 10 0 0 0 0 0, m_e 10 11 51 0 0 0 0, m_e 11 12 4 0 0 0 0, m_e 12 13 0 0 0 0 0, m_e 13 15 0 0 1 9 9, m_e 15 18 40 56 29 50 0, m_e 18 19 5 3 0 0 0, m_e 19 20 2 3 0 0 0, m_e 20 22 0 0 1 (-9) (-9), m_e 22 25 21 30 1 8 0, m_e 25 27 0 0 1 (-9) (-9), m_e 27 30 19 36 0 9 0, m_e 30 31 4 0 0 0 0, m_e 31 32 0 0 0 0 0, m_e 32 33 0 0 0 3 3, m_e 33 36 40 56 29 50 0, m_e 36 38 5 4 1 0 0, m_e 38 40 2 4 1 0 0, m_e 40 42 0 0 1 (-9) (-9), m_e 42 45 21 47 1 5 0, m_e 45 46 0 0 0 0 0, m_e 46 47 51 0 0 0 0, m_e 47 48 4 1 0 0 0, m_e 48 51 17 60 2 2 0, m_e 51 52 2 2 0 0 0, m_e 52 53 2 3 0 0 0, m_e 53 54 31 0 0 0 0, m_e 54 55 4 1 0 0 0, m_e 55 58 17 63 3 2 0, m_e 58 59 2 2 0 0 0, m_e 59 61 2 4 1 0 0, m_e 61 62 31 0 0 0 0, m_e 62 63 4 1 0 0 0, m_e 63 64 2 2 0 0 0, m_e 64 65 0 0 0 1 1, m_e 65 66 9 0 0 0 0, m_e 66 69 18 66 0 2 0, m_e 69 70 0 0 0 1 1, m_e 70 71 51 0 0 0 0]
def t_X3_takesCrier : List m_E := [m_e 0 1 4 0 0 0 0, m_e 1 3 0 0 1 59 59, m_e 3 6 40 42 27 49 0, m_e 6 9 20 11 1 5 0, m_e 9 10 0 0 0 0 0, m_e 10 11 51 0 0 0 0, m_e 11 12 4 0 0 0 0, m_e 12 15 40 69 28 48 0, m_e 15 16 5 3 0 0 0, m_e 16 17 2 3 0 0 0, m_e 17 19 0 0 1 (-9) (-9), m_e 19 22 21 27 1 8 0, m_e 22 24 0 0 1 (-9) (-9), m_e 24 27 19 33 0 9 0, m_e 27 28 4 0 0 0 0, m_e 28 29 0 0 0 1 1, m_e 29 30 0 0 0 3 3, m_e 30 33 40 56 29 50 0, m_e 33 35 5 4 1 0 0, m_e 35 37 2 4 1 0 0, m_e 37 39 0 0 1 (-9) (-9), m_e 39 42 21 47 1 8 0, m_e 42 44 0 0 1 (-9) (-9), m_e 44 47 19 58 0 14 0, m_e 47 48 4 0 0 0 0, m_e 48 49 0 0 0 0 0, m_e 49 50 4 1 0 0 0, m_e 50 53 17 66 0 2 0, m_e 53 54 0 0 0 1 1, m_e 54 55 9 0 1 0 0, m_e 55 58 40 56 29 50 0, m_e 58 60 5 5 1 0 0, m_e 60 62 2 5 1 0 0, m_e 62 64 0 0 1 (-9) (-9), m_e 64 67 21 69 1 5 0, m_e 67 68 0 0 0 0 0, m_e 68 69 51 0 0 0 0, m_e 69 70 4 1 0 0 0, m_e 70 73 17 73 4 2 0, m_e 73 74 2 2 0 0 0, m_e 74 75 2 3 0 0 0, m_e 75 76 31 0 0 0 0, m_e 76 77 4 1 0 0 0, m_e 77 80 17 76 5 2 0, m_e 80 81 2 2 0 0 0, m_e 81 83 2 4 1 0 0, m_e 83 84 31 0 0 0 0, m_e 84 85 4 1 0 0 0, m_e 85 88 17 79 6 2 0, m_e 88 89 2 2 0 0 0, m_e 89 91 2 5 1 0 0, m_e 91 92 31 0 0 0 0, m_e 92 93 4 1 0 0 0, m_e 93 94 2 2 0 0 0, m_e 94 95 0 0 0 1 1, m_e 95 96 9 0 0 0 0, m_e 96 99 18 82 1 2 0, m_e 99 100 0 0 0 1 1, m_e 100 101 51 0 0 0 0]
def t_X3_isAt : List m_E := [m_e 0 1 4 0 0 0 0, m_e 1 4 17 30 2 3 0, m_e 4 5 4 0 0 0 0, m_e 5 8 17 26 1 3 0, m_e 8 11 21 28 3 20 0, m_e 11 12 4 0 0 0 0, m_e 12 15 17 9 0 3 0, m_e 15 16 4 0 0 0 0, m_e 16 19 17 30 2 3 0, m_e 19 20 30 0 0 0 0, m_e 20 21 2 1 0 0 0, m_e 21 24 21 28 1 7 0, m_e 24 25 0 0 0 1 1, m_e 25 28 19 29 0 4 0, m_e 28 29 0 0 0 0 0, m_e 29 30 51 0 0 0 0]
def t_X3_takes : List m_E := [m_e 0 1 4 0 0 0 0, m_e 1 2 2 1 0 0 0, m_e 2 5 40 46 26 49 0, m_e 5 6 5 2 0 0 0, m_e 6 7 4 0 0 0 0, m_e 7 8 15 0 0 0 0, m_e 8 11 17 30 2 3 0, m_e 11 12 2 2 0 0 0, m_e 12 15 20 19 0 7 0, m_e 15 16 0 0 0 1 1, m_e 16 19 19 20 0 4 0, m_e 19 20 0 0 0 0 0, m_e 20 21 9 0 0 0 0, m_e 21 24 18 30 2 3 0, m_e 24 25 2 2 0 0 0, m_e 25 26 51 0 0 0 0]
def t_X3_takenKind : List m_E := [m_e 0 1 4 0 0 0 0, m_e 1 3 0 0 1 112 112, m_e 3 6 40 42 27 49 0, m_e 6 9 20 11 0 5 0, m_e 9 10 0 0 0 0 0, m_e 10 11 51 0 0 0 0, m_e 11 12 4 0 0 0 0, m_e 12 14 0 0 1 109 109, m_e 14 17 40 42 27 49 0, m_e 17 20 20 22 0 5 0, m_e 20 21 0 0 0 1 1, m_e 21 22 51 0 0 0 0, m_e 22 23 4 0 0 0 0, m_e 23 25 0 0 1 99 99, m_e 25 28 40 42 27 49 0, m_e 28 31 20 35 0 7 0, m_e 31 32 0 0 0 2 2, m_e 32 35 19 37 0 5 0, m_e 35 37 0 0 1 (-9) (-9), m_e 37 38 51 0 0 0 0]
def t_X3_takenDigit : List m_E := [m_e 0 1 4 0 0 0 0, m_e 1 4 17 30 2 3 0, m_e 4 5 4 0 0 0 0, m_e 5 8 17 26 1 3 0, m_e 8 11 21 43 3 35 0, m_e 11 12 4 0 0 0 0, m_e 12 15 17 9 0 3 0, m_e 15 16 4 0 0 0 0, m_e 16 19 17 30 2 3 0, m_e 19 20 30 0 0 0 0, m_e 20 22 0 0 1 48 48, m_e 22 23 2 1 0 0 0, m_e 23 24 9 0 0 0 0, m_e 24 27 21 43 2 19 0, m_e 27 28 4 0 0 0 0, m_e 28 31 17 9 0 3 0, m_e 31 32 4 0 0 0 0, m_e 32 35 17 30 2 3 0, m_e 35 36 30 0 0 0 0, m_e 36 38 0 0 1 48 48, m_e 38 39 2 2 0 0 0, m_e 39 40 9 0 0 0 0, m_e 40 43 21 46 5 6 0, m_e 43 45 0 0 1 (-9) (-9), m_e 45 46 51 0 0 0 0, m_e 46 47 4 0 0 0 0, m_e 47 48 15 0 0 0 0, m_e 48 51 17 30 2 3 0, m_e 51 52 0 0 0 1 1, m_e 52 53 9 0 0 0 0, m_e 53 56 18 30 2 3 0, m_e 56 57 4 0 0 0 0, m_e 57 60 17 9 0 3 0, m_e 60 61 4 0 0 0 0, m_e 61 64 17 30 2 3 0, m_e 64 65 0 0 0 1 1, m_e 65 66 9 0 1 0 0, m_e 66 67 30 0 0 0 0, m_e 67 69 0 0 1 48 48, m_e 69 70 9 0 1 0 0, m_e 70 71 51 0 0 0 0]
def t_X4_shower : List m_E := [m_e 0 1 4 0 0 0 0, m_e 1 2 0 0 0 0 0, m_e 2 5 18 49 9 4 0, m_e 5 6 2 1 0 0 0, m_e 6 9 41 53 87 1 0, m_e 9 12 20 14 1 5 0, m_e 12 13 0 0 0 (-1) (-1), m_e 13 14 51 0 0 0 0, m_e 14 15 2 2 0 0 0, m_e 15 18 41 57 88 1 0, m_e 18 21 20 24 1 6 0, m_e 21 23 0 0 1 (-2) (-2), m_e 23 24 51 0 0 0 0, m_e 24 25 4 0 0 0 0, m_e 25 28 17 37 4 4 0, m_e 28 29 2 1 0 0 0, m_e 29 30 32 0 0 0 0, m_e 30 32 7 5 1 0 0, m_e 32 34 4 5 1 0 0, m_e 34 35 2 2 0 0 0, m_e 35 38 40 60 7 17 0, m_e 38 40 5 6 1 0 0, m_e 40 42 2 6 1 0 0, m_e 42 45 20 52 0 10 0, m_e 45 46 4 0 0 0 0, m_e 46 48 2 6 1 0 0, m_e 48 51 40 64 80 65 0, m_e 51 52 51 0 0 0 0, m_e 52 54 2 4 1 0 0, m_e 54 57 20 63 3 9 0, m_e 57 58 4 0 0 0 0, m_e 58 59 0 0 0 4 4, m_e 59 62 40 64 80 65 0, m_e 62 63 51 0 0 0 0, m_e 63 65 4 5 1 0 0, m_e 65 66 2 3 0 0 0, m_e 66 68 2 4 1 0 0, m_e 68 71 40 67 9 18 0, m_e 71 74 20 80 1 9 0, m_e 74 75 4 0 0 0 0, m_e 75 76 0 0 0 3 3, m_e 76 79 40 64 80 65 0, m_e 79 80 51 0 0 0 0, m_e 80 81 4 0 0 0 0, m_e 81 84 17 31 3 4 0, m_e 84 86 4 5 1 0 0, m_e 86 87 2 3 0 0 0, m_e 87 89 2 4 1 0 0, m_e 89 90 4 0 0 0 0, m_e 90 93 17 18 1 4 0, m_e 93 96 40 71 22 52 0, m_e 96 98 5 7 1 0 0, m_e 98 100 2 7 1 0 0, m_e 100 102 0 0 1 (-9) (-9), m_e 102 105 21 111 0 9 0, m_e 105 107 0 0 1 (-100) (-100), m_e 107 109 2 7 1 0 0, m_e 109 110 9 0 1 0 0, m_e 110 111 51 0 0 0 0, m_e 111 112 4 0 0 0 0, m_e 112 115 17 12 0 4 0, m_e 115 116 4 0 0 0 0, m_e 116 119 17 18 1 4 0, m_e 119 122 40 75 12 33 0, m_e 122 123 4 0 0 0 0, m_e 123 124 0 0 0 0 0, m_e 124 127 18 79 7 4 0, m_e 127 128 4 0 0 0 0, m_e 128 131 17 12 0 4 0, m_e 131 134 17 82 1 2 0, m_e 134 135 51 0 0 0 0]
def t_X4_ofLine : List m_E := [m_e 0 1 4 0 0 0 0, m_e 1 2 2 1 0 0 0, m_e 2 5 40 85 83 65 0, m_e 5 8 20 10 1 5 0, m_e 8 9 0 0 0 (-1) (-1), m_e 9 10 51 0 0 0 0, m_e 10 11 4 0 0 0 0, m_e 11 14 17 24 2 4 0, m_e 14 15 4 0 0 0 0, m_e 15 18 17 12 0 4 0, m_e 18 21 40 88 0 1 0, m_e 21 22 2 2 0 0 0, m_e 22 56 60 106 2 0 0, m_e 56 57 4 0 0 0 0, m_e 57 60 17 12 0 4 0, m_e 60 63 17 91 2 2 0, m_e 63 64 2 1 0 0 0, m_e 64 65 30 0 0 0 0, m_e 65 66 51 0 0 0 0, m_e 66 67 4 0 0 0 0, m_e 67 70 17 12 0 4 0, m_e 70 73 17 94 3 2 0, m_e 73 74 2 1 0 0 0, m_e 74 75 30 0 0 0 0, m_e 75 76 51 0 0 0 0, m_e 76 77 4 0 0 0 0, m_e 77 80 17 24 2 4 0, m_e 80 83 17 97 0 0 0, m_e 83 84 2 1 0 0 0, m_e 84 85 30 0 0 0 0, m_e 85 86 51 0 0 0 0, m_e 86 87 4 0 0 0 0, m_e 87 90 17 24 2 4 0, m_e 90 93 17 100 1 0 0, m_e 93 94 2 1 0 0 0, m_e 94 95 30 0 0 0 0, m_e 95 96 51 0 0 0 0, m_e 96 97 4 0 0 0 0, m_e 97 100 17 24 2 4 0, m_e 100 103 17 103 2 0 0, m_e 103 104 2 1 0 0 0, m_e 104 105 30 0 0 0 0, m_e 105 106 51 0 0 0 0, m_e 106 108 0 0 1 (-2) (-2), m_e 108 109 51 0 0 0 0]
def t_X4_ofCrier : List m_E := [m_e 0 1 4 0 0 0 0, m_e 1 2 2 1 0 0 0, m_e 2 5 40 106 84 65 0, m_e 5 8 20 10 1 5 0, m_e 8 9 0 0 0 (-1) (-1), m_e 9 10 51 0 0 0 0, m_e 10 11 2 2 0 0 0, m_e 11 44 60 119 3 0 0, m_e 44 45 4 0 0 0 0, m_e 45 48 17 12 0 4 0, m_e 48 51 17 109 4 2 0, m_e 51 52 2 1 0 0 0, m_e 52 53 30 0 0 0 0, m_e 53 54 51 0 0 0 0, m_e 54 55 4 0 0 0 0, m_e 55 58 17 12 0 4 0, m_e 58 61 17 112 5 2 0, m_e 61 62 2 1 0 0 0, m_e 62 63 30 0 0 0 0, m_e 63 64 51 0 0 0 0, m_e 64 65 4 0 0 0 0, m_e 65 68 17 12 0 4 0, m_e 68 71 17 115 6 2 0, m_e 71 72 2 1 0 0 0, m_e 72 73 30 0 0 0 0, m_e 73 74 51 0 0 0 0, m_e 74 75 4 0 0 0 0, m_e 75 78 17 24 2 4 0, m_e 78 79 4 0 0 0 0, m_e 79 82 17 12 0 4 0, m_e 82 85 40 88 0 1 0, m_e 85 86 4 0 0 0 0, m_e 86 89 17 24 2 4 0, m_e 89 90 2 1 0 0 0, m_e 90 91 4 0 0 0 0, m_e 91 94 17 12 0 4 0, m_e 94 97 17 118 0 2 0, m_e 97 100 40 121 3 2 0, m_e 100 101 51 0 0 0 0, m_e 101 102 4 0 0 0 0, m_e 102 105 17 12 0 4 0, m_e 105 106 2 1 0 0 0, m_e 106 107 4 0 0 0 0, m_e 107 110 17 12 0 4 0, m_e 110 113 17 118 0 2 0, m_e 113 114 0 0 0 1 1, m_e 114 115 9 0 1 0 0, m_e 115 118 40 125 13 34 0, m_e 118 119 51 0 0 0 0, m_e 119 121 0 0 1 (-2) (-2), m_e 121 122 51 0 0 0 0]
def t_X4_print : List m_E := [m_e 0 1 4 0 0 0 0, m_e 1 2 2 1 0 0 0, m_e 2 5 40 85 83 65 0, m_e 5 8 20 10 1 5 0, m_e 8 9 0 0 0 (-1) (-1), m_e 9 10 51 0 0 0 0, m_e 10 11 2 2 0 0 0, m_e 11 13 0 0 1 9 9, m_e 13 16 41 128 89 2 0, m_e 16 19 20 22 1 6 0, m_e 19 21 0 0 1 (-2) (-2), m_e 21 22 51 0 0 0 0, m_e 22 23 4 0 0 0 0, m_e 23 26 17 12 0 4 0, m_e 26 29 17 91 2 2 0, m_e 29 30 2 1 0 0 0, m_e 30 31 30 0 0 0 0, m_e 31 32 5 3 0 0 0, m_e 32 33 4 0 0 0 0, m_e 33 36 17 12 0 4 0, m_e 36 39 17 91 2 2 0, m_e 39 40 2 1 0 0 0, m_e 40 41 2 2 0 0 0, m_e 41 42 31 0 0 0 0, m_e 42 43 2 3 0 0 0, m_e 43 44 51 0 0 0 0]
def t_X4_begin : List m_E := [m_e 0 1 4 0 0 0 0, m_e 1 2 2 1 0 0 0, m_e 2 5 40 106 84 65 0, m_e 5 8 20 16 0 11 0, m_e 8 9 4 0 0 0 0, m_e 9 10 2 2 0 0 0, m_e 10 13 40 85 83 65 0, m_e 13 16 20 18 1 5 0, m_e 16 17 0 0 0 (-1) (-1), m_e 17 18 51 0 0 0 0, m_e 18 19 4 0 0 0 0, m_e 19 22 17 12 0 4 0, m_e 22 25 17 115 6 2 0, m_e 25 26 2 1 0 0 0, m_e 26 27 30 0 0 0 0, m_e 27 28 5 3 0 0 0, m_e 28 29 4 0 0 0 0, m_e 29 32 17 12 0 4 0, m_e 32 35 17 115 6 2 0, m_e 35 36 2 1 0 0 0, m_e 36 37 2 2 0 0 0, m_e 37 38 31 0 0 0 0, m_e 38 39 2 3 0 0 0, m_e 39 40 51 0 0 0 0]
def t_X4_cough : List m_E := [m_e 0 1 4 0 0 0 0, m_e 1 2 2 1 0 0 0, m_e 2 3 2 2 0 0 0, m_e 3 6 41 131 86 1 0, m_e 6 9 40 134 81 66 0, m_e 9 10 5 3 0 0 0, m_e 10 11 2 3 0 0 0, m_e 11 14 20 16 0 5 0, m_e 14 15 2 3 0 0 0, m_e 15 16 51 0 0 0 0, m_e 16 17 4 0 0 0 0, m_e 17 20 17 12 0 4 0, m_e 20 21 2 1 0 0 0, m_e 21 22 2 2 0 0 0, m_e 22 25 40 138 16 34 0, m_e 25 26 4 0 0 0 0, m_e 26 29 17 12 0 4 0, m_e 29 30 2 1 0 0 0, m_e 30 31 2 2 0 0 0, m_e 31 34 40 142 15 34 0, m_e 34 37 20 41 0 7 0, m_e 37 38 0 0 0 1 1, m_e 38 41 19 42 0 4 0, m_e 41 42 0 0 0 0 0, m_e 42 43 51 0 0 0 0]
def t_X4_comes : List m_E := [m_e 0 1 4 0 0 0 0, m_e 1 2 2 1 0 0 0, m_e 2 3 2 2 0 0 0, m_e 3 6 41 131 86 1 0, m_e 6 9 40 134 81 66 0, m_e 9 10 5 3 0 0 0, m_e 10 11 2 3 0 0 0, m_e 11 14 20 16 0 5 0, m_e 14 15 2 3 0 0 0, m_e 15 16 51 0 0 0 0, m_e 16 17 4 0 0 0 0, m_e 17 20 17 24 2 4 0, m_e 20 21 4 0 0 0 0, m_e 21 24 17 12 0 4 0, m_e 24 27 40 88 0 1 0, m_e 27 28 4 0 0 0 0, m_e 28 31 17 24 2 4 0, m_e 31 34 17 145 3 0 0, m_e 34 35 2 1 0 0 0, m_e 35 37 0 0 1 6 6, m_e 37 38 9 0 2 0 0, m_e 38 39 2 2 0 0 0, m_e 39 40 9 0 0 0 0, m_e 40 41 30 0 0 0 0, m_e 41 42 51 0 0 0 0]
def t_X4_wet : List m_E := [m_e 0 1 4 0 0 0 0, m_e 1 2 2 1 0 0 0, m_e 2 3 0 0 0 1 1, m_e 3 6 40 134 81 66 0, m_e 6 7 5 2 0 0 0, m_e 7 8 2 2 0 0 0, m_e 8 11 20 13 0 5 0, m_e 11 12 2 2 0 0 0, m_e 12 13 51 0 0 0 0, m_e 13 14 4 0 0 0 0, m_e 14 17 17 24 2 4 0, m_e 17 18 4 0 0 0 0, m_e 18 21 17 12 0 4 0, m_e 21 24 40 88 0 1 0, m_e 24 25 4 0 0 0 0, m_e 25 28 17 24 2 4 0, m_e 28 31 17 148 4 0 0, m_e 31 32 2 1 0 0 0, m_e 32 33 30 0 0 0 0, m_e 33 34 51 0 0 0 0]
def t_X4_day : List m_E := [m_e 0 1 4 0 0 0 0, m_e 1 2 0 0 0 0 0, m_e 2 5 18 49 9 4 0, m_e 5 6 2 1 0 0 0, m_e 6 9 41 53 87 1 0, m_e 9 12 20 14 1 5 0, m_e 12 13 0 0 0 (-1) (-1), m_e 13 14 51 0 0 0 0, m_e 14 15 2 2 0 0 0, m_e 15 18 41 57 88 1 0, m_e 18 21 20 39 0 21 0, m_e 21 23 2 4 1 0 0, m_e 23 25 0 0 1 20 20, m_e 25 28 41 128 89 2 0, m_e 28 31 20 39 0 11 0, m_e 31 33 2 5 1 0 0, m_e 33 36 41 151 43 1 0, m_e 36 39 20 42 1 6 0, m_e 39 41 0 0 1 (-2) (-2), m_e 41 42 51 0 0 0 0, m_e 42 43 4 0 0 0 0, m_e 43 46 40 154 82 64 0, m_e 46 49 20 52 1 6 0, m_e 49 51 0 0 1 (-3) (-3), m_e 51 52 51 0 0 0 0, m_e 52 53 4 0 0 0 0, m_e 53 56 17 37 4 4 0, m_e 56 57 2 1 0 0 0, m_e 57 58 32 0 0 0 0, m_e 58 60 7 6 1 0 0, m_e 60 62 4 6 1 0 0, m_e 62 63 2 2 0 0 0, m_e 63 66 40 60 7 17 0, m_e 66 68 5 7 1 0 0, m_e 68 70 2 7 1 0 0, m_e 70 73 20 80 0 10 0, m_e 73 74 4 0 0 0 0, m_e 74 76 2 7 1 0 0, m_e 76 79 40 64 80 65 0, m_e 79 80 51 0 0 0 0, m_e 80 82 4 6 1 0 0, m_e 82 83 2 3 0 0 0, m_e 83 84 0 0 0 2 2, m_e 84 86 2 4 1 0 0, m_e 86 87 9 0 2 0 0, m_e 87 90 40 67 9 18 0, m_e 90 93 20 99 1 9 0, m_e 93 94 4 0 0 0 0, m_e 94 95 0 0 0 3 3, m_e 95 98 40 64 80 65 0, m_e 98 99 51 0 0 0 0, m_e 99 100 4 0 0 0 0, m_e 100 102 4 6 1 0 0, m_e 102 103 2 3 0 0 0, m_e 103 105 2 4 1 0 0, m_e 105 108 40 158 39 67 0, m_e 108 111 20 114 1 6 0, m_e 111 113 0 0 1 (-2) (-2), m_e 113 114 51 0 0 0 0, m_e 114 115 4 0 0 0 0, m_e 115 116 4 0 0 0 0, m_e 116 118 4 6 1 0 0, m_e 118 119 2 3 0 0 0, m_e 119 121 2 4 1 0 0, m_e 121 124 40 162 41 67 0, m_e 124 126 2 5 1 0 0, m_e 126 129 40 166 42 66 0, m_e 129 130 51 0 0 0 0]
def t_X4_areActs : List m_E := [m_e 0 1 0 0 0 0 0, m_e 1 3 5 4 1 0 0, m_e 3 5 2 4 1 0 0, m_e 5 6 2 3 0 0 0, m_e 6 9 21 48 3 42 0, m_e 9 10 4 0 0 0 0, m_e 10 11 4 1 0 0 0, m_e 11 14 17 169 0 1 0, m_e 14 15 2 2 0 0 0, m_e 15 16 0 0 0 2 2, m_e 16 18 2 4 1 0 0, m_e 18 19 9 0 2 0 0, m_e 19 20 9 0 0 0 0, m_e 20 21 30 0 0 0 0, m_e 21 22 4 1 0 0 0, m_e 22 25 17 169 0 1 0, m_e 25 26 2 2 0 0 0, m_e 26 27 0 0 0 2 2, m_e 27 29 2 4 1 0 0, m_e 29 30 9 0 2 0 0, m_e 30 31 9 0 0 0 0, m_e 31 32 0 0 0 1 1, m_e 32 33 9 0 0 0 0, m_e 33 34 30 0 0 0 0, m_e 34 37 40 172 40 66 0, m_e 37 40 20 42 1 5 0, m_e 40 41 0 0 0 0 0, m_e 41 42 51 0 0 0 0, m_e 42 45 8 4 0 1 1, m_e 45 48 19 3 0 (-42) 0, m_e 48 49 0 0 0 1 1, m_e 49 50 51 0 0 0 0]
def t_X4_isAct : List m_E := [m_e 0 1 2 2 0 0 0, m_e 1 4 20 10 2 9 0, m_e 4 5 2 2 0 0 0, m_e 5 7 0 0 1 13 13, m_e 7 10 21 12 2 5 0, m_e 10 11 0 0 0 0 0, m_e 11 12 51 0 0 0 0, m_e 12 13 2 2 0 0 0, m_e 13 15 0 0 1 6 6, m_e 15 18 21 25 3 10 0, m_e 18 19 2 1 0 0 0, m_e 19 21 0 0 1 9 9, m_e 21 24 41 128 89 2 0, m_e 24 25 51 0 0 0 0, m_e 25 26 2 2 0 0 0, m_e 26 28 0 0 1 9 9, m_e 28 31 21 39 3 11 0, m_e 31 32 2 1 0 0 0, m_e 32 33 0 0 0 5 5, m_e 33 36 41 128 89 2 0, m_e 36 39 19 43 0 7 0, m_e 39 40 2 1 0 0 0, m_e 40 43 41 131 86 1 0, m_e 43 44 51 0 0 0 0]
def t_X4_firstWrong : List m_E := [m_e 0 1 4 0 0 0 0, m_e 1 4 17 18 1 4 0, m_e 4 5 4 0 0 0 0, m_e 5 8 17 12 0 4 0, m_e 8 11 40 75 12 33 0, m_e 11 12 0 0 0 0 0, m_e 12 14 5 4 1 0 0, m_e 14 16 2 4 1 0 0, m_e 16 17 2 3 0 0 0, m_e 17 20 21 63 3 46 0, m_e 20 21 4 0 0 0 0, m_e 21 24 17 18 1 4 0, m_e 24 25 4 1 0 0 0, m_e 25 28 17 169 0 1 0, m_e 28 29 2 2 0 0 0, m_e 29 30 0 0 0 2 2, m_e 30 32 2 4 1 0 0, m_e 32 33 9 0 2 0 0, m_e 33 34 9 0 0 0 0, m_e 34 35 30 0 0 0 0, m_e 35 36 4 1 0 0 0, m_e 36 39 17 169 0 1 0, m_e 39 40 2 2 0 0 0, m_e 40 41 0 0 0 2 2, m_e 41 43 2 4 1 0 0, m_e 43 44 9 0 2 0 0, m_e 44 45 9 0 0 0 0, m_e 45 46 0 0 0 1 1, m_e 46 47 9 0 0 0 0, m_e 47 48 30 0 0 0 0, m_e 48 51 40 175 21 34 0, m_e 51 54 20 57 1 6 0, m_e 54 56 2 4 1 0 0, m_e 56 57 51 0 0 0 0, m_e 57 60 8 4 0 1 1, m_e 60 63 19 14 0 (-46) 0, m_e 63 65 0 0 1 (-9) (-9), m_e 65 66 51 0 0 0 0]
def t_X4_answerOfDay : List m_E := [m_e 0 1 2 2 0 0 0, m_e 1 2 0 0 0 1 1, m_e 2 5 21 7 1 5 0, m_e 5 6 2 1 0 0 0, m_e 6 7 51 0 0 0 0, m_e 7 8 2 1 0 0 0, m_e 8 10 0 0 1 (-9) (-9), m_e 10 13 21 18 0 8 0, m_e 13 15 0 0 1 (-100) (-100), m_e 15 16 2 1 0 0 0, m_e 16 17 9 0 1 0 0, m_e 17 18 51 0 0 0 0, m_e 18 19 4 0 0 0 0, m_e 19 22 17 24 2 4 0, m_e 22 23 4 0 0 0 0, m_e 23 26 17 18 1 4 0, m_e 26 29 40 88 0 1 0, m_e 29 30 2 2 0 0 0, m_e 30 64 60 96 4 0 0, m_e 64 65 4 0 0 0 0, m_e 65 68 17 24 2 4 0, m_e 68 71 40 178 4 0 0, m_e 71 72 51 0 0 0 0, m_e 72 73 4 0 0 0 0, m_e 73 76 17 24 2 4 0, m_e 76 79 17 182 5 0 0, m_e 79 80 51 0 0 0 0, m_e 80 81 4 0 0 0 0, m_e 81 84 17 24 2 4 0, m_e 84 87 17 185 6 0 0, m_e 87 88 51 0 0 0 0, m_e 88 89 4 0 0 0 0, m_e 89 92 17 24 2 4 0, m_e 92 95 17 188 7 0 0, m_e 95 96 51 0 0 0 0, m_e 96 97 4 0 0 0 0, m_e 97 100 17 24 2 4 0, m_e 100 103 17 148 4 0 0, m_e 103 104 2 2 0 0 0, m_e 104 106 0 0 1 10 10, m_e 106 107 9 0 1 0 0, m_e 107 108 30 0 0 0 0, m_e 108 109 51 0 0 0 0]
def t_X4_isAskedOfDay : List m_E := [m_e 0 1 2 0 0 0 0, m_e 1 2 0 0 0 4 4, m_e 2 5 41 128 89 2 0, m_e 5 8 20 20 1 15 0, m_e 8 9 2 0 0 0 0, m_e 9 11 0 0 1 10 10, m_e 11 14 21 24 2 13 0, m_e 14 15 2 0 0 0 0, m_e 15 17 0 0 1 14 14, m_e 17 20 21 24 3 7 0, m_e 20 21 0 0 0 1 1, m_e 21 24 19 25 0 4 0, m_e 24 25 0 0 0 0 0, m_e 25 26 51 0 0 0 0]
def t_X4_whole : List m_E := [m_e 0 1 2 1 0 0 0, m_e 1 2 0 0 0 (-1) (-1), m_e 2 5 21 10 2 8 0, m_e 5 6 2 1 0 0 0, m_e 6 7 0 0 0 3 3, m_e 7 10 21 13 2 6 0, m_e 10 12 0 0 1 (-2) (-2), m_e 12 13 51 0 0 0 0, m_e 13 14 4 0 0 0 0, m_e 14 17 40 154 82 64 0, m_e 17 20 20 23 1 6 0, m_e 20 22 0 0 1 (-3) (-3), m_e 22 23 51 0 0 0 0, m_e 23 24 4 0 0 0 0, m_e 24 27 17 18 1 4 0, m_e 27 28 4 0 0 0 0, m_e 28 31 17 12 0 4 0, m_e 31 34 40 75 12 33 0, m_e 34 35 4 0 0 0 0, m_e 35 38 17 12 0 4 0, m_e 38 41 40 191 19 32 0, m_e 41 42 5 2 0 0 0, m_e 42 43 0 0 0 0 0, m_e 43 44 5 3 0 0 0, m_e 44 46 0 0 1 (-9) (-9), m_e 46 48 5 4 1 0 0, m_e 48 49 0 0 0 0 0, m_e 49 51 5 5 1 0 0, m_e 51 53 2 5 1 0 0, m_e 53 54 2 2 0 0 0, m_e 54 57 21 122 3 68 0, m_e 57 58 4 0 0 0 0, m_e 58 61 17 18 1 4 0, m_e 61 63 2 5 1 0 0, m_e 63 66 40 194 20 33 0, m_e 66 67 4 0 0 0 0, m_e 67 70 17 24 2 4 0, m_e 70 71 4 0 0 0 0, m_e 71 74 17 18 1 4 0, m_e 74 77 40 88 0 1 0, m_e 77 78 4 0 0 0 0, m_e 78 81 17 24 2 4 0, m_e 81 84 17 182 5 0 0, m_e 84 87 20 116 1 32 0, m_e 87 88 4 0 0 0 0, m_e 88 91 17 24 2 4 0, m_e 91 94 17 185 6 0 0, m_e 94 97 20 116 1 22 0, m_e 97 100 8 3 0 1 1, m_e 100 102 2 4 1 0 0, m_e 102 104 0 0 1 (-9) (-9), m_e 104 107 21 112 1 8 0, m_e 107 109 2 5 1 0 0, m_e 109 112 19 114 0 5 0, m_e 112 114 2 4 1 0 0, m_e 114 116 5 4 1 0 0, m_e 116 119 8 5 0 1 1, m_e 119 122 19 51 0 (-68) 0, m_e 122 123 2 1 0 0 0, m_e 123 124 0 0 0 (-1) (-1), m_e 124 127 21 131 1 7 0, m_e 127 128 2 3 0 0 0, m_e 128 131 19 138 0 10 0, m_e 131 132 4 0 0 0 0, m_e 132 134 2 4 1 0 0, m_e 134 135 2 1 0 0 0, m_e 135 138 40 198 46 66 0, m_e 138 139 51 0 0 0 0]
def t_X4_most : List m_E := [m_e 0 1 2 1 0 0 0, m_e 1 2 0 0 0 (-1) (-1), m_e 2 5 21 10 2 8 0, m_e 5 6 2 1 0 0 0, m_e 6 7 0 0 0 3 3, m_e 7 10 21 13 2 6 0, m_e 10 12 0 0 1 (-2) (-2), m_e 12 13 51 0 0 0 0, m_e 13 14 4 0 0 0 0, m_e 14 17 40 154 82 64 0, m_e 17 20 20 23 1 6 0, m_e 20 22 0 0 1 (-3) (-3), m_e 22 23 51 0 0 0 0, m_e 23 24 4 0 0 0 0, m_e 24 27 17 18 1 4 0, m_e 27 28 4 0 0 0 0, m_e 28 31 17 12 0 4 0, m_e 31 34 40 75 12 33 0, m_e 34 35 4 0 0 0 0, m_e 35 38 17 12 0 4 0, m_e 38 41 40 191 19 32 0, m_e 41 42 5 2 0 0 0, m_e 42 43 0 0 0 (-1) (-1), m_e 43 44 5 3 0 0 0, m_e 44 46 0 0 1 (-9) (-9), m_e 46 48 5 4 1 0 0, m_e 48 49 0 0 0 0 0, m_e 49 51 5 5 1 0 0, m_e 51 53 2 5 1 0 0, m_e 53 54 2 2 0 0 0, m_e 54 57 21 106 3 52 0, m_e 57 58 4 0 0 0 0, m_e 58 61 17 18 1 4 0, m_e 61 63 2 5 1 0 0, m_e 63 66 40 194 20 33 0, m_e 66 67 4 0 0 0 0, m_e 67 70 17 24 2 4 0, m_e 70 71 4 0 0 0 0, m_e 71 74 17 18 1 4 0, m_e 74 77 40 88 0 1 0, m_e 77 78 4 0 0 0 0, m_e 78 81 17 24 2 4 0, m_e 81 84 40 178 4 0 0, m_e 84 85 2 3 0 0 0, m_e 85 88 21 100 5 15 0, m_e 88 89 4 0 0 0 0, m_e 89 92 17 24 2 4 0, m_e 92 95 40 178 4 0 0, m_e 95 96 5 3 0 0 0, m_e 96 98 2 5 1 0 0, m_e 98 100 5 4 1 0 0, m_e 100 103 8 5 0 1 1, m_e 103 106 19 51 0 (-52) 0, m_e 106 107 2 1 0 0 0, m_e 107 108 0 0 0 (-1) (-1), m_e 108 111 21 115 1 7 0, m_e 111 112 2 3 0 0 0, m_e 112 115 19 122 0 10 0, m_e 115 116 4 0 0 0 0, m_e 116 118 2 4 1 0 0, m_e 118 119 2 1 0 0 0, m_e 119 122 40 198 46 66 0, m_e 122 123 51 0 0 0 0]
def t_X4_startIn : List m_E := [m_e 0 1 2 1 0 0 0, m_e 1 3 0 0 1 (-9) (-9), m_e 3 6 21 14 0 11 0, m_e 6 7 4 0 0 0 0, m_e 7 8 2 2 0 0 0, m_e 8 11 40 106 84 65 0, m_e 11 14 20 17 1 6 0, m_e 14 16 0 0 1 (-9) (-9), m_e 16 17 51 0 0 0 0, m_e 17 18 4 0 0 0 0, m_e 18 21 17 18 1 4 0, m_e 21 22 2 1 0 0 0, m_e 22 25 40 194 20 33 0, m_e 25 26 4 0 0 0 0, m_e 26 29 17 18 1 4 0, m_e 29 32 17 115 6 2 0, m_e 32 33 2 2 0 0 0, m_e 33 34 30 0 0 0 0, m_e 34 35 51 0 0 0 0]
def t_X4_strayed : List m_E := [m_e 0 1 4 0 0 0 0, m_e 1 2 2 1 0 0 0, m_e 2 5 40 106 84 65 0, m_e 5 8 20 10 1 5 0, m_e 8 9 0 0 0 (-1) (-1), m_e 9 10 51 0 0 0 0, m_e 10 11 2 2 0 0 0, m_e 11 12 0 0 0 1 1, m_e 12 15 41 128 89 2 0, m_e 15 18 20 21 1 6 0, m_e 18 20 0 0 1 (-2) (-2), m_e 20 21 51 0 0 0 0, m_e 21 22 4 0 0 0 0, m_e 22 25 17 18 1 4 0, m_e 25 26 4 0 0 0 0, m_e 26 29 17 12 0 4 0, m_e 29 32 40 75 12 33 0, m_e 32 33 2 2 0 0 0, m_e 33 36 20 50 1 17 0, m_e 36 37 0 0 0 1 1, m_e 37 38 4 0 0 0 0, m_e 38 41 17 12 0 4 0, m_e 41 44 17 118 0 2 0, m_e 44 45 9 0 6 0 0, m_e 45 46 0 0 0 1 1, m_e 46 47 9 0 1 0 0, m_e 47 50 19 52 0 5 0, m_e 50 52 0 0 1 15 15, m_e 52 53 5 3 0 0 0, m_e 53 54 0 0 0 0 0, m_e 54 56 5 4 1 0 0, m_e 56 58 2 4 1 0 0, m_e 58 59 4 0 0 0 0, m_e 59 62 17 12 0 4 0, m_e 62 65 17 118 0 2 0, m_e 65 68 21 130 3 65 0, m_e 68 69 4 0 0 0 0, m_e 69 72 17 18 1 4 0, m_e 72 75 17 115 6 2 0, m_e 75 76 2 1 0 0 0, m_e 76 78 2 4 1 0 0, m_e 78 79 31 0 0 0 0, m_e 79 80 4 0 0 0 0, m_e 80 83 17 24 2 4 0, m_e 83 84 4 0 0 0 0, m_e 84 87 17 18 1 4 0, m_e 87 90 40 88 0 1 0, m_e 90 91 2 3 0 0 0, m_e 91 92 2 2 0 0 0, m_e 92 95 20 115 1 23 0, m_e 95 96 4 0 0 0 0, m_e 96 99 17 24 2 4 0, m_e 99 102 17 182 5 0 0, m_e 102 103 4 0 0 0 0, m_e 103 106 17 24 2 4 0, m_e 106 109 17 185 6 0 0, m_e 109 110 9 0 4 0 0, m_e 110 111 0 0 0 (-1) (-1), m_e 111 112 9 0 5 0 0, m_e 112 115 19 122 0 10 0, m_e 115 116 4 0 0 0 0, m_e 116 119 17 24 2 4 0, m_e 119 122 40 201 5 0 0, m_e 122 123 9 0 3 0 0, m_e 123 124 5 3 0 0 0, m_e 124 127 8 4 0 1 1, m_e 127 130 19 56 0 (-71) 0, m_e 130 131 2 3 0 0 0, m_e 131 132 51 0 0 0 0]
def t_X4_saved : List m_E := [m_e 0 1 2 1 0 0 0, m_e 1 3 0 0 1 15 15, m_e 3 6 41 128 89 2 0, m_e 6 9 20 18 0 12 0, m_e 9 10 2 2 0 0 0, m_e 10 12 0 0 1 99 99, m_e 12 15 41 128 89 2 0, m_e 15 18 20 21 1 6 0, m_e 18 20 0 0 1 (-2) (-2), m_e 20 21 51 0 0 0 0, m_e 21 22 4 0 0 0 0, m_e 22 25 40 154 82 64 0, m_e 25 28 20 31 1 6 0, m_e 28 30 0 0 1 (-3) (-3), m_e 30 31 51 0 0 0 0, m_e 31 32 4 0 0 0 0, m_e 32 35 17 18 1 4 0, m_e 35 36 4 0 0 0 0, m_e 36 39 17 12 0 4 0, m_e 39 42 40 75 12 33 0, m_e 42 44 0 0 1 (-9) (-9), m_e 44 45 5 3 0 0 0, m_e 45 46 0 0 0 0 0, m_e 46 48 5 4 1 0 0, m_e 48 50 2 4 1 0 0, m_e 50 52 0 0 1 64 64, m_e 52 55 21 94 3 42 0, m_e 55 57 2 4 1 0 0, m_e 57 60 41 204 166 1 0, m_e 60 62 5 5 1 0 0, m_e 62 63 2 3 0 0 0, m_e 63 65 0 0 1 (-9) (-9), m_e 65 68 21 74 0 9 0, m_e 68 70 2 5 1 0 0, m_e 70 71 2 3 0 0 0, m_e 71 74 21 88 3 17 0, m_e 74 75 4 0 0 0 0, m_e 75 77 2 4 1 0 0, m_e 77 78 2 1 0 0 0, m_e 78 79 2 2 0 0 0, m_e 79 82 40 209 49 67 0, m_e 82 85 20 88 0 6 0, m_e 85 87 2 5 1 0 0, m_e 87 88 5 3 0 0 0, m_e 88 91 8 4 0 1 1, m_e 91 94 19 48 0 (-43) 0, m_e 94 95 2 3 0 0 0, m_e 95 96 51 0 0 0 0]
def t_X4_savesBy : List m_E := [m_e 0 1 0 0 0 0 0, m_e 1 3 5 4 1 0 0, m_e 3 5 2 4 1 0 0, m_e 5 7 0 0 1 6 6, m_e 7 10 21 41 3 34 0, m_e 10 11 4 0 0 0 0, m_e 11 14 17 18 1 4 0, m_e 14 17 17 213 7 2 0, m_e 17 19 2 4 1 0 0, m_e 19 20 2 1 0 0 0, m_e 20 22 2 4 1 0 0, m_e 22 23 9 0 7 0 0, m_e 23 24 0 0 0 1 1, m_e 24 25 9 0 3 0 0, m_e 25 26 0 0 0 1 1, m_e 26 29 21 33 1 7 0, m_e 29 30 2 2 0 0 0, m_e 30 33 19 34 0 4 0, m_e 33 34 0 0 0 0 0, m_e 34 35 31 0 0 0 0, m_e 35 38 8 4 0 1 1, m_e 38 41 19 3 0 (-35) 0, m_e 41 42 4 0 0 0 0, m_e 42 45 17 24 2 4 0, m_e 45 46 4 0 0 0 0, m_e 46 49 17 18 1 4 0, m_e 49 52 40 88 0 1 0, m_e 52 53 0 0 0 0 0, m_e 53 55 5 4 1 0 0, m_e 55 57 2 4 1 0 0, m_e 57 58 0 0 0 4 4, m_e 58 61 21 93 3 35 0, m_e 61 62 2 2 0 0 0, m_e 62 64 2 4 1 0 0, m_e 64 65 9 0 7 0 0, m_e 65 66 0 0 0 1 1, m_e 66 67 9 0 3 0 0, m_e 67 68 0 0 0 1 1, m_e 68 71 21 87 1 19 0, m_e 71 72 4 0 0 0 0, m_e 72 75 17 24 2 4 0, m_e 75 78 17 148 4 0 0, m_e 78 80 2 4 1 0 0, m_e 80 81 30 0 0 0 0, m_e 81 82 2 3 0 0 0, m_e 82 85 21 87 5 5 0, m_e 85 86 0 0 0 0 0, m_e 86 87 51 0 0 0 0, m_e 87 90 8 4 0 1 1, m_e 90 93 19 55 0 (-35) 0, m_e 93 94 0 0 0 1 1, m_e 94 95 51 0 0 0 0]
def t_X4_misprint : List m_E := [m_e 0 1 4 0 0 0 0, m_e 1 2 2 1 0 0 0, m_e 2 3 2 2 0 0 0, m_e 3 5 0 0 1 99 99, m_e 5 8 41 128 89 2 0, m_e 8 11 20 23 0 15 0, m_e 11 12 2 3 0 0 0, m_e 12 13 0 0 0 1 1, m_e 13 16 41 128 89 2 0, m_e 16 19 20 23 0 7 0, m_e 19 20 0 0 0 1 1, m_e 20 23 19 24 0 4 0, m_e 23 24 0 0 0 0 0, m_e 24 27 40 134 81 66 0, m_e 27 29 5 4 1 0 0, m_e 29 31 2 4 1 0 0, m_e 31 34 20 37 0 6 0, m_e 34 36 2 4 1 0 0, m_e 36 37 51 0 0 0 0, m_e 37 38 4 0 0 0 0, m_e 38 41 17 24 2 4 0, m_e 41 42 4 0 0 0 0, m_e 42 45 17 12 0 4 0, m_e 45 48 40 88 0 1 0, m_e 48 49 4 0 0 0 0, m_e 49 52 17 24 2 4 0, m_e 52 55 17 148 4 0 0, m_e 55 56 2 1 0 0 0, m_e 56 57 30 0 0 0 0, m_e 57 58 2 2 0 0 0, m_e 58 61 21 72 2 14 0, m_e 61 62 2 3 0 0 0, m_e 62 65 20 69 1 7 0, m_e 65 66 0 0 0 0 0, m_e 66 69 19 71 0 5 0, m_e 69 71 0 0 1 (-9) (-9), m_e 71 72 51 0 0 0 0, m_e 72 73 4 0 0 0 0, m_e 73 76 17 18 1 4 0, m_e 76 77 4 0 0 0 0, m_e 77 80 17 12 0 4 0, m_e 80 83 40 75 12 33 0, m_e 83 84 0 0 0 1 1, m_e 84 86 5 5 1 0 0, m_e 86 88 2 5 1 0 0, m_e 88 90 0 0 1 9 9, m_e 90 93 21 145 4 55 0, m_e 93 94 0 0 0 0 0, m_e 94 96 5 6 1 0 0, m_e 96 98 2 6 1 0 0, m_e 98 99 4 0 0 0 0, m_e 99 102 17 12 0 4 0, m_e 102 105 17 118 0 2 0, m_e 105 108 21 139 3 34 0, m_e 108 109 4 0 0 0 0, m_e 109 111 2 6 1 0 0, m_e 111 113 2 5 1 0 0, m_e 113 114 2 1 0 0 0, m_e 114 115 2 2 0 0 0, m_e 115 118 40 216 51 68 0, m_e 118 121 20 133 0 15 0, m_e 121 122 2 3 0 0 0, m_e 122 125 20 130 1 8 0, m_e 125 127 2 5 1 0 0, m_e 127 130 19 132 0 5 0, m_e 130 132 2 6 1 0 0, m_e 132 133 51 0 0 0 0, m_e 133 136 8 6 0 1 1, m_e 136 139 19 96 0 (-40) 0, m_e 139 142 8 5 0 1 1, m_e 142 145 19 86 0 (-56) 0, m_e 145 147 0 0 1 (-9) (-9), m_e 147 148 51 0 0 0 0]
def t_X4_isWetBy : List m_E := [m_e 0 1 4 0 0 0 0, m_e 1 4 17 12 0 4 0, m_e 4 7 17 91 2 2 0, m_e 7 8 2 1 0 0 0, m_e 8 9 30 0 0 0 0, m_e 9 11 5 5 1 0 0, m_e 11 13 2 5 1 0 0, m_e 13 14 2 2 0 0 0, m_e 14 15 9 0 0 0 0, m_e 15 17 0 0 1 9 9, m_e 17 20 21 22 5 5 0, m_e 20 21 0 0 0 0 0, m_e 21 22 51 0 0 0 0, m_e 22 23 4 0 0 0 0, m_e 23 26 17 18 1 4 0, m_e 26 29 17 91 2 2 0, m_e 29 30 2 1 0 0 0, m_e 30 32 2 5 1 0 0, m_e 32 33 2 2 0 0 0, m_e 33 34 9 0 0 0 0, m_e 34 35 31 0 0 0 0, m_e 35 36 4 0 0 0 0, m_e 36 39 17 24 2 4 0, m_e 39 40 4 0 0 0 0, m_e 40 43 17 18 1 4 0, m_e 43 46 40 88 0 1 0, m_e 46 47 4 0 0 0 0, m_e 47 50 17 18 1 4 0, m_e 50 53 17 91 2 2 0, m_e 53 54 2 1 0 0 0, m_e 54 56 2 5 1 0 0, m_e 56 57 31 0 0 0 0, m_e 57 58 4 0 0 0 0, m_e 58 61 17 24 2 4 0, m_e 61 64 17 148 4 0 0, m_e 64 65 2 3 0 0 0, m_e 65 66 30 0 0 0 0, m_e 66 68 2 4 1 0 0, m_e 68 71 21 75 2 7 0, m_e 71 72 0 0 0 1 1, m_e 72 75 19 76 0 4 0, m_e 75 76 0 0 0 0 0, m_e 76 77 51 0 0 0 0]
def t_X4_rests : List m_E := [m_e 0 1 2 1 0 0 0, m_e 1 4 41 220 85 1 0, m_e 4 7 20 19 0 15 0, m_e 7 8 2 2 0 0 0, m_e 8 11 41 220 85 1 0, m_e 11 14 20 19 0 8 0, m_e 14 15 2 1 0 0 0, m_e 15 16 2 2 0 0 0, m_e 16 19 21 21 1 5 0, m_e 19 20 0 0 0 (-1) (-1), m_e 20 21 51 0 0 0 0, m_e 21 22 4 0 0 0 0, m_e 22 23 2 1 0 0 0, m_e 23 24 2 3 0 0 0, m_e 24 27 41 131 86 1 0, m_e 27 30 40 134 81 66 0, m_e 30 32 5 4 1 0 0, m_e 32 34 2 4 1 0 0, m_e 34 37 20 40 0 6 0, m_e 37 39 2 4 1 0 0, m_e 39 40 51 0 0 0 0, m_e 40 41 4 0 0 0 0, m_e 41 44 17 18 1 4 0, m_e 44 45 4 0 0 0 0, m_e 45 48 17 12 0 4 0, m_e 48 51 40 75 12 33 0, m_e 51 52 0 0 0 0 0, m_e 52 54 5 5 1 0 0, m_e 54 55 0 0 0 0 0, m_e 55 57 5 6 1 0 0, m_e 57 59 2 6 1 0 0, m_e 59 60 0 0 0 4 4, m_e 60 63 21 148 3 88 0, m_e 63 64 4 0 0 0 0, m_e 64 65 2 1 0 0 0, m_e 65 66 2 2 0 0 0, m_e 66 67 2 3 0 0 0, m_e 67 69 2 6 1 0 0, m_e 69 72 40 223 53 68 0, m_e 72 73 4 0 0 0 0, m_e 73 74 2 1 0 0 0, m_e 74 75 2 2 0 0 0, m_e 75 76 2 3 0 0 0, m_e 76 78 2 6 1 0 0, m_e 78 79 0 0 0 1 1, m_e 79 80 9 0 5 0 0, m_e 80 83 40 223 53 68 0, m_e 83 86 21 90 4 7 0, m_e 86 87 0 0 0 1 1, m_e 87 90 19 91 0 4 0, m_e 90 91 0 0 0 0 0, m_e 91 93 5 7 1 0 0, m_e 93 94 4 0 0 0 0, m_e 94 95 2 1 0 0 0, m_e 95 96 2 2 0 0 0, m_e 96 97 2 3 0 0 0, m_e 97 99 2 6 1 0 0, m_e 99 102 40 227 54 68 0, m_e 102 103 4 0 0 0 0, m_e 103 104 2 1 0 0 0, m_e 104 105 2 2 0 0 0, m_e 105 106 2 3 0 0 0, m_e 106 108 2 6 1 0 0, m_e 108 109 0 0 0 2 2, m_e 109 110 9 0 5 0 0, m_e 110 113 40 227 54 68 0, m_e 113 116 21 120 4 7 0, m_e 116 117 0 0 0 1 1, m_e 117 120 19 121 0 4 0, m_e 120 121 0 0 0 0 0, m_e 121 123 5 8 1 0 0, m_e 123 125 2 7 1 0 0, m_e 125 128 20 142 0 17 0, m_e 128 130 2 8 1 0 0, m_e 130 133 20 142 0 12 0, m_e 133 135 2 5 1 0 0, m_e 135 136 0 0 0 1 1, m_e 136 138 2 6 1 0 0, m_e 138 139 9 0 6 0 0, m_e 139 140 9 0 4 0 0, m_e 140 142 5 5 1 0 0, m_e 142 145 8 6 0 1 1, m_e 145 148 19 57 0 (-88) 0, m_e 148 150 2 5 1 0 0, m_e 150 151 51 0 0 0 0]
def t_X4_painOfFirst : List m_E := [m_e 0 1 4 0 0 0 0, m_e 1 2 2 1 0 0 0, m_e 2 3 2 2 0 0 0, m_e 3 4 2 3 0 0 0, m_e 4 6 2 4 1 0 0, m_e 6 9 40 230 55 68 0, m_e 9 10 4 0 0 0 0, m_e 10 13 17 24 2 4 0, m_e 13 16 17 148 4 0 0, m_e 16 17 2 1 0 0 0, m_e 17 18 30 0 0 0 0, m_e 18 20 2 4 1 0 0, m_e 20 21 0 0 0 1 1, m_e 21 22 9 0 3 0 0, m_e 22 23 0 0 0 1 1, m_e 23 26 21 30 1 7 0, m_e 26 27 0 0 0 2 2, m_e 27 30 19 31 0 4 0, m_e 30 31 0 0 0 0 0, m_e 31 32 9 0 0 0 0, m_e 32 33 51 0 0 0 0]
def t_X4_painOfSecond : List m_E := [m_e 0 1 4 0 0 0 0, m_e 1 2 2 1 0 0 0, m_e 2 3 2 2 0 0 0, m_e 3 4 2 3 0 0 0, m_e 4 6 2 4 1 0 0, m_e 6 9 40 230 55 68 0, m_e 9 10 4 0 0 0 0, m_e 10 13 17 24 2 4 0, m_e 13 16 17 148 4 0 0, m_e 16 17 2 2 0 0 0, m_e 17 18 30 0 0 0 0, m_e 18 20 2 4 1 0 0, m_e 20 21 0 0 0 2 2, m_e 21 22 9 0 3 0 0, m_e 22 23 0 0 0 2 2, m_e 23 26 21 30 1 7 0, m_e 26 27 0 0 0 2 2, m_e 27 30 19 31 0 4 0, m_e 30 31 0 0 0 0 0, m_e 31 32 9 0 0 0 0, m_e 32 33 51 0 0 0 0]
def t_X4_coughInTrial : List m_E := [m_e 0 1 4 0 0 0 0, m_e 1 4 17 12 0 4 0, m_e 4 7 17 213 7 2 0, m_e 7 8 2 3 0 0 0, m_e 8 9 30 0 0 0 0, m_e 9 10 0 0 0 1 1, m_e 10 11 2 1 0 0 0, m_e 11 12 9 0 6 0 0, m_e 12 13 0 0 0 1 1, m_e 13 14 2 2 0 0 0, m_e 14 15 9 0 6 0 0, m_e 15 16 9 0 4 0 0, m_e 16 17 0 0 0 (-1) (-1), m_e 17 18 9 0 5 0 0, m_e 18 19 9 0 3 0 0, m_e 19 21 5 5 1 0 0, m_e 21 22 4 0 0 0 0, m_e 22 25 17 18 1 4 0, m_e 25 28 17 213 7 2 0, m_e 28 29 2 3 0 0 0, m_e 29 31 2 5 1 0 0, m_e 31 33 2 4 1 0 0, m_e 33 34 0 0 0 1 1, m_e 34 35 9 0 3 0 0, m_e 35 36 2 1 0 0 0, m_e 36 37 9 0 6 0 0, m_e 37 38 9 0 4 0 0, m_e 38 40 2 4 1 0 0, m_e 40 41 0 0 0 1 1, m_e 41 42 9 0 7 0 0, m_e 42 43 0 0 0 1 1, m_e 43 44 9 0 3 0 0, m_e 44 45 2 2 0 0 0, m_e 45 46 9 0 6 0 0, m_e 46 47 9 0 4 0 0, m_e 47 48 31 0 0 0 0, m_e 48 49 4 0 0 0 0, m_e 49 52 17 24 2 4 0, m_e 52 53 4 0 0 0 0, m_e 53 56 17 18 1 4 0, m_e 56 59 40 88 0 1 0, m_e 59 60 50 0 0 0 0]
def t_X4_reading : List m_E := [m_e 0 1 4 0 0 0 0, m_e 1 2 2 1 0 0 0, m_e 2 3 2 2 0 0 0, m_e 3 5 0 0 1 120 120, m_e 5 8 41 128 89 2 0, m_e 8 11 40 134 81 66 0, m_e 11 12 5 3 0 0 0, m_e 12 13 2 3 0 0 0, m_e 13 16 20 18 0 5 0, m_e 16 17 2 3 0 0 0, m_e 17 18 51 0 0 0 0, m_e 18 19 4 0 0 0 0, m_e 19 22 17 79 7 4 0, m_e 22 24 0 0 1 8 8, m_e 24 27 21 30 2 6 0, m_e 27 29 0 0 1 (-4) (-4), m_e 29 30 51 0 0 0 0, m_e 30 31 4 0 0 0 0, m_e 31 34 17 41 5 4 0, m_e 34 35 4 0 0 0 0, m_e 35 38 17 79 7 4 0, m_e 38 39 2 1 0 0 0, m_e 39 40 31 0 0 0 0, m_e 40 41 4 0 0 0 0, m_e 41 44 17 45 6 4 0, m_e 44 45 4 0 0 0 0, m_e 45 48 17 79 7 4 0, m_e 48 49 2 2 0 0 0, m_e 49 50 31 0 0 0 0, m_e 50 51 4 0 0 0 0, m_e 51 52 15 0 0 0 0, m_e 52 55 17 79 7 4 0, m_e 55 56 0 0 0 1 1, m_e 56 57 9 0 0 0 0, m_e 57 60 18 79 7 4 0, m_e 60 61 4 0 0 0 0, m_e 61 64 17 79 7 4 0, m_e 64 65 0 0 0 1 1, m_e 65 66 9 0 1 0 0, m_e 66 67 51 0 0 0 0]
def t_X4_back : List m_E := [m_e 0 1 2 1 0 0 0, m_e 1 2 4 0 0 0 0, m_e 2 5 17 79 7 4 0, m_e 5 8 41 128 89 2 0, m_e 8 11 20 14 1 6 0, m_e 11 13 0 0 1 (-2) (-2), m_e 13 14 51 0 0 0 0, m_e 14 15 4 0 0 0 0, m_e 15 16 15 0 0 0 0, m_e 16 19 17 79 7 4 0, m_e 19 20 2 1 0 0 0, m_e 20 21 9 0 1 0 0, m_e 21 24 18 79 7 4 0, m_e 24 25 4 0 0 0 0, m_e 25 28 17 79 7 4 0, m_e 28 29 51 0 0 0 0]
def t_X4_kinds : List m_E := [m_e 0 1 4 0 0 0 0, m_e 1 2 2 1 0 0 0, m_e 2 5 40 106 84 65 0, m_e 5 8 20 25 0 20 0, m_e 8 9 4 0 0 0 0, m_e 9 10 2 1 0 0 0, m_e 10 11 4 0 0 0 0, m_e 11 14 17 18 1 4 0, m_e 14 17 17 109 4 2 0, m_e 17 18 0 0 0 0 0, m_e 18 19 0 0 0 2 2, m_e 19 22 40 234 61 68 0, m_e 22 25 19 26 0 4 0, m_e 25 26 0 0 0 (-1) (-1), m_e 26 27 51 0 0 0 0]
def t_X4_paces : List m_E := [m_e 0 1 4 0 0 0 0, m_e 1 2 2 1 0 0 0, m_e 2 5 40 106 84 65 0, m_e 5 8 20 25 0 20 0, m_e 8 9 4 0 0 0 0, m_e 9 10 2 1 0 0 0, m_e 10 11 4 0 0 0 0, m_e 11 14 17 18 1 4 0, m_e 14 17 17 112 5 2 0, m_e 17 18 0 0 0 1 1, m_e 18 19 0 0 0 3 3, m_e 19 22 40 234 61 68 0, m_e 22 25 19 26 0 4 0, m_e 25 26 0 0 0 (-1) (-1), m_e 26 27 51 0 0 0 0]
def t_X4_starts : List m_E := [m_e 0 1 4 0 0 0 0, m_e 1 2 2 1 0 0 0, m_e 2 5 40 106 84 65 0, m_e 5 8 20 33 0 28 0, m_e 8 9 4 0 0 0 0, m_e 9 10 2 1 0 0 0, m_e 10 11 4 0 0 0 0, m_e 11 14 17 18 1 4 0, m_e 14 17 17 115 6 2 0, m_e 17 18 0 0 0 0 0, m_e 18 19 4 0 0 0 0, m_e 19 22 17 12 0 4 0, m_e 22 25 17 118 0 2 0, m_e 25 26 0 0 0 1 1, m_e 26 27 9 0 1 0 0, m_e 27 30 40 234 61 68 0, m_e 30 33 19 34 0 4 0, m_e 33 34 0 0 0 (-1) (-1), m_e 34 35 51 0 0 0 0]
def t_X4_fitting : List m_E := [m_e 0 1 4 0 0 0 0, m_e 1 4 17 18 1 4 0, m_e 4 5 4 0 0 0 0, m_e 5 8 17 12 0 4 0, m_e 8 11 40 75 12 33 0, m_e 11 12 0 0 0 0 0, m_e 12 14 5 5 1 0 0, m_e 14 15 2 3 0 0 0, m_e 15 17 5 6 1 0 0, m_e 17 19 2 6 1 0 0, m_e 19 21 2 4 1 0 0, m_e 21 24 21 66 4 45 0, m_e 24 25 4 2 0 0 0, m_e 25 26 2 1 0 0 0, m_e 26 28 2 6 1 0 0, m_e 28 29 31 0 0 0 0, m_e 29 30 4 0 0 0 0, m_e 30 33 17 24 2 4 0, m_e 33 34 4 0 0 0 0, m_e 34 37 17 18 1 4 0, m_e 37 40 40 88 0 1 0, m_e 40 42 2 5 1 0 0, m_e 42 43 4 0 0 0 0, m_e 43 46 40 238 62 64 0, m_e 46 49 20 56 0 10 0, m_e 49 50 0 0 0 1 1, m_e 50 52 2 6 1 0 0, m_e 52 53 9 0 6 0 0, m_e 53 56 19 57 0 4 0, m_e 56 57 0 0 0 0 0, m_e 57 58 9 0 4 0 0, m_e 58 60 5 5 1 0 0, m_e 60 63 8 6 0 1 1, m_e 63 66 19 17 0 (-46) 0, m_e 66 68 2 5 1 0 0, m_e 68 69 51 0 0 0 0]
def t_X4_allReadingsAreSo : List m_E := [m_e 0 1 0 0 0 0 0, m_e 1 2 5 1 0 0 0, m_e 2 3 2 1 0 0 0, m_e 3 4 4 0 0 0 0, m_e 4 7 17 79 7 4 0, m_e 7 10 21 41 3 34 0, m_e 10 11 4 0 0 0 0, m_e 11 14 17 24 2 4 0, m_e 14 17 17 148 4 0 0, m_e 17 18 4 0 0 0 0, m_e 18 21 17 41 5 4 0, m_e 21 22 2 1 0 0 0, m_e 22 23 30 0 0 0 0, m_e 23 24 30 0 0 0 0, m_e 24 25 4 0 0 0 0, m_e 25 28 17 45 6 4 0, m_e 28 29 2 1 0 0 0, m_e 29 30 30 0 0 0 0, m_e 30 33 21 35 0 5 0, m_e 33 34 0 0 0 0 0, m_e 34 35 51 0 0 0 0, m_e 35 38 8 1 0 1 1, m_e 38 41 19 2 0 (-36) 0, m_e 41 42 0 0 0 1 1, m_e 42 43 51 0 0 0 0]
def t_X4_odds : List m_E := [m_e 0 1 4 0 0 0 0, m_e 1 2 2 1 0 0 0, m_e 2 3 2 2 0 0 0, m_e 3 5 0 0 1 120 120, m_e 5 8 41 128 89 2 0, m_e 8 11 20 23 0 15 0, m_e 11 12 2 3 0 0 0, m_e 12 13 0 0 0 1 1, m_e 13 16 41 128 89 2 0, m_e 16 19 20 23 0 7 0, m_e 19 20 0 0 0 1 1, m_e 20 23 19 24 0 4 0, m_e 23 24 0 0 0 0 0, m_e 24 27 40 134 81 66 0, m_e 27 30 20 34 0 7 0, m_el 30 33 1 241 2 (-9223372036854775808), m_e 33 34 52 0 0 0 0, m_e 34 35 4 0 0 0 0, m_e 35 38 17 18 1 4 0, m_e 38 39 4 0 0 0 0, m_e 39 42 17 12 0 4 0, m_e 42 45 40 75 12 33 0, m_e 45 46 4 0 0 0 0, m_e 46 49 17 12 0 4 0, m_e 49 52 40 191 19 32 0, m_e 52 54 5 4 1 0 0, m_e 54 55 0 0 0 0 0, m_e 55 57 5 5 1 0 0, m_e 57 58 0 0 0 0 0, m_e 58 60 5 6 1 0 0, m_e 60 62 2 6 1 0 0, m_e 62 64 2 4 1 0 0, m_e 64 67 21 116 3 52 0, m_e 67 68 4 0 0 0 0, m_e 68 71 17 18 1 4 0, m_e 71 73 2 6 1 0 0, m_e 73 76 40 194 20 33 0, m_e 76 77 4 0 0 0 0, m_e 77 80 17 24 2 4 0, m_e 80 81 4 0 0 0 0, m_e 81 84 17 18 1 4 0, m_e 84 87 40 88 0 1 0, m_e 87 89 2 5 1 0 0, m_e 89 90 4 0 0 0 0, m_e 90 93 17 24 2 4 0, m_e 93 96 17 148 4 0 0, m_e 96 97 2 1 0 0 0, m_e 97 98 30 0 0 0 0, m_e 98 99 2 2 0 0 0, m_e 99 102 21 106 2 7 0, m_e 102 103 0 0 0 1 1, m_e 103 106 19 107 0 4 0, m_e 106 107 0 0 0 0 0, m_e 107 108 9 0 0 0 0, m_e 108 110 5 5 1 0 0, m_e 110 113 8 6 0 1 1, m_e 113 116 19 60 0 (-53) 0, m_e 116 118 2 5 1 0 0, m_e 118 120 2 4 1 0 0, m_e 120 123 41 243 64 2 0, m_e 123 125 5 6 1 0 0, m_e 125 126 2 3 0 0 0, m_e 126 129 20 138 1 12 0, m_e 129 131 2 5 1 0 0, m_e 131 133 2 6 1 0 0, m_e 133 134 34 0 0 0 0, m_e 134 135 11 0 0 0 0, m_e 135 138 19 144 0 9 0, m_e 138 140 2 4 1 0 0, m_e 140 142 2 6 1 0 0, m_e 142 143 34 0 0 0 0, m_e 143 144 11 0 0 0 0, m_e 144 145 52 0 0 0 0]
def t_X4_commonPart : List m_E := [m_e 0 1 2 1 0 0 0, m_e 1 2 5 2 0 0 0, m_e 2 3 2 2 0 0 0, m_e 3 4 0 0 0 1 1, m_e 4 7 21 27 5 23 0, m_e 7 8 2 0 0 0 0, m_e 8 9 2 2 0 0 0, m_e 9 10 35 0 0 0 0, m_e 10 13 20 21 1 11 0, m_e 13 14 2 1 0 0 0, m_e 14 15 2 2 0 0 0, m_e 15 16 35 0 0 0 0, m_e 16 19 20 21 1 5 0, m_e 19 20 2 2 0 0 0, m_e 20 21 51 0 0 0 0, m_e 21 24 8 2 0 (-1) (-1), m_e 24 27 19 2 0 (-22) 0, m_e 27 28 0 0 0 1 1, m_e 28 29 51 0 0 0 0]
def t_X4_sheet : List m_E := [m_e 0 1 4 0 0 0 0, m_e 1 2 0 0 0 0 0, m_e 2 5 18 49 9 4 0, m_e 5 6 2 1 0 0 0, m_e 6 9 41 53 87 1 0, m_e 9 12 20 14 1 5 0, m_e 12 13 0 0 0 (-1) (-1), m_e 13 14 51 0 0 0 0, m_e 14 15 2 2 0 0 0, m_e 15 18 41 57 88 1 0, m_e 18 21 20 27 0 9 0, m_e 21 22 2 3 0 0 0, m_e 22 24 0 0 1 60 60, m_e 24 27 21 30 5 6 0, m_e 27 29 0 0 1 (-2) (-2), m_e 29 30 51 0 0 0 0, m_e 30 31 2 3 0 0 0, m_e 31 34 20 40 3 9 0, m_e 34 35 4 0 0 0 0, m_e 35 36 0 0 0 4 4, m_e 36 39 40 64 80 65 0, m_e 39 40 51 0 0 0 0, m_e 40 41 4 0 0 0 0, m_e 41 44 17 37 4 4 0, m_e 44 45 2 1 0 0 0, m_e 45 46 32 0 0 0 0, m_e 46 47 2 2 0 0 0, m_e 47 48 2 3 0 0 0, m_e 48 51 40 246 6 18 0, m_e 51 52 0 0 0 1 1, m_e 52 53 51 0 0 0 0]
def t_X4_lose : List m_E := [m_e 0 1 2 1 0 0 0, m_e 1 4 41 53 87 1 0, m_e 4 7 20 9 1 5 0, m_e 7 8 0 0 0 (-1) (-1), m_e 8 9 51 0 0 0 0, m_e 9 10 4 0 0 0 0, m_e 10 13 17 37 4 4 0, m_e 13 14 2 1 0 0 0, m_e 14 15 32 0 0 0 0, m_e 15 18 17 249 1 1 0, m_e 18 21 20 25 0 7 0, m_e 21 22 0 0 0 1 1, m_e 22 25 19 26 0 4 0, m_e 25 26 0 0 0 0 0, m_e 26 27 5 2 0 0 0, m_e 27 28 4 0 0 0 0, m_e 28 31 17 37 4 4 0, m_e 31 32 2 1 0 0 0, m_e 32 33 32 0 0 0 0, m_e 33 34 0 0 0 0 0, m_e 34 37 38 249 1 1 0, m_e 37 38 2 2 0 0 0, m_e 38 39 51 0 0 0 0]
def t_X4_put : List m_E := [m_e 0 1 4 0 0 0 0, m_e 1 2 0 0 0 0 0, m_e 2 5 18 49 9 4 0, m_e 5 6 2 1 0 0 0, m_e 6 9 41 53 87 1 0, m_e 9 12 20 14 1 5 0, m_e 12 13 0 0 0 (-1) (-1), m_e 13 14 51 0 0 0 0, m_e 14 15 4 0 0 0 0, m_e 15 18 17 37 4 4 0, m_e 18 19 2 1 0 0 0, m_e 19 20 32 0 0 0 0, m_e 20 22 7 4 1 0 0, m_e 22 24 4 4 1 0 0, m_e 24 27 17 249 1 1 0, m_e 27 30 20 36 1 9 0, m_e 30 31 4 0 0 0 0, m_e 31 32 0 0 0 1 1, m_e 32 35 40 64 80 65 0, m_e 35 36 51 0 0 0 0, m_e 36 38 4 4 1 0 0, m_e 38 39 2 2 0 0 0, m_e 39 42 40 253 8 17 0, m_e 42 45 20 51 1 9 0, m_e 45 46 4 0 0 0 0, m_e 46 47 0 0 0 3 3, m_e 47 50 40 64 80 65 0, m_e 50 51 51 0 0 0 0, m_e 51 53 4 4 1 0 0, m_e 53 56 17 169 0 1 0, m_e 56 57 2 2 0 0 0, m_e 57 59 4 4 1 0 0, m_e 59 60 2 3 0 0 0, m_e 60 63 40 256 10 17 0, m_e 63 64 31 0 0 0 0, m_e 64 65 0 0 0 1 1, m_e 65 66 51 0 0 0 0]
def t_X4_cell : List m_E := [m_e 0 1 4 0 0 0 0, m_e 1 2 0 0 0 0 0, m_e 2 5 18 49 9 4 0, m_e 5 6 2 1 0 0 0, m_e 6 9 41 53 87 1 0, m_e 9 12 20 19 0 10 0, m_e 12 13 2 3 0 0 0, m_e 13 16 41 57 88 1 0, m_e 16 19 20 23 1 7 0, m_el 19 22 1 241 2 (-9223372036854775808), m_e 22 23 52 0 0 0 0, m_e 23 24 4 0 0 0 0, m_e 24 27 17 37 4 4 0, m_e 27 28 2 1 0 0 0, m_e 28 29 32 0 0 0 0, m_e 29 31 7 4 1 0 0, m_e 31 33 4 4 1 0 0, m_e 33 34 2 3 0 0 0, m_e 34 37 40 60 7 17 0, m_e 37 39 5 5 1 0 0, m_e 39 41 2 5 1 0 0, m_e 41 44 20 56 1 15 0, m_e 44 46 4 4 1 0 0, m_e 46 47 2 2 0 0 0, m_e 47 50 40 253 8 17 0, m_e 50 53 20 56 1 6 0, m_e 53 54 0 0 0 3 3, m_e 54 56 5 5 1 0 0, m_e 56 58 2 5 1 0 0, m_e 58 61 20 71 0 13 0, m_e 61 62 4 0 0 0 0, m_e 62 64 2 5 1 0 0, m_e 64 67 18 49 9 4 0, m_el 67 70 1 241 2 (-9223372036854775808), m_e 70 71 52 0 0 0 0, m_e 71 73 4 4 1 0 0, m_e 73 76 17 169 0 1 0, m_e 76 77 2 2 0 0 0, m_e 77 78 30 0 0 0 0, m_e 78 79 11 0 0 0 0, m_e 79 80 52 0 0 0 0]
def t_X4_copy : List m_E := [m_e 0 1 4 0 0 0 0, m_e 1 2 0 0 0 0 0, m_e 2 5 18 49 9 4 0, m_e 5 6 2 1 0 0 0, m_e 6 9 41 53 87 1 0, m_e 9 12 20 19 0 10 0, m_e 12 13 2 3 0 0 0, m_e 13 16 41 53 87 1 0, m_e 16 19 20 21 1 5 0, m_e 19 20 0 0 0 (-1) (-1), m_e 20 21 51 0 0 0 0, m_e 21 22 4 0 0 0 0, m_e 22 25 17 37 4 4 0, m_e 25 26 2 1 0 0 0, m_e 26 27 32 0 0 0 0, m_e 27 29 7 6 1 0 0, m_e 29 30 4 0 0 0 0, m_e 30 33 17 37 4 4 0, m_e 33 34 2 3 0 0 0, m_e 34 35 32 0 0 0 0, m_e 35 37 7 7 1 0 0, m_e 37 39 4 6 1 0 0, m_e 39 42 17 249 1 1 0, m_e 42 45 20 53 0 11 0, m_e 45 47 4 7 1 0 0, m_e 47 50 17 249 1 1 0, m_e 50 53 20 59 1 9 0, m_e 53 54 4 0 0 0 0, m_e 54 55 0 0 0 1 1, m_e 55 58 40 64 80 65 0, m_e 58 59 51 0 0 0 0, m_e 59 61 4 6 1 0 0, m_e 61 64 17 259 2 1 0, m_e 64 66 4 7 1 0 0, m_e 66 69 17 259 2 1 0, m_e 69 72 21 78 0 9 0, m_e 72 73 4 0 0 0 0, m_e 73 74 0 0 0 2 2, m_e 74 77 40 64 80 65 0, m_e 77 78 51 0 0 0 0, m_e 78 80 4 6 1 0 0, m_e 80 81 2 2 0 0 0, m_e 81 83 2 5 1 0 0, m_e 83 86 40 67 9 18 0, m_e 86 89 20 101 0 15 0, m_e 89 91 4 7 1 0 0, m_e 91 93 2 4 1 0 0, m_e 93 95 2 5 1 0 0, m_e 95 98 40 67 9 18 0, m_e 98 101 20 107 1 9 0, m_e 101 102 4 0 0 0 0, m_e 102 103 0 0 0 3 3, m_e 103 106 40 64 80 65 0, m_e 106 107 51 0 0 0 0, m_e 107 109 4 6 1 0 0, m_e 109 112 17 169 0 1 0, m_e 112 113 2 2 0 0 0, m_e 113 115 4 7 1 0 0, m_e 115 118 17 169 0 1 0, m_e 118 120 2 4 1 0 0, m_e 120 122 2 5 1 0 0, m_e 122 125 39 262 0 0 0, m_e 125 127 2 5 1 0 0, m_e 127 128 51 0 0 0 0]
def t_X4_tell : List m_E := [m_e 0 1 4 0 0 0 0, m_e 1 2 2 1 0 0 0, m_e 2 5 40 106 84 65 0, m_e 5 8 20 10 1 5 0, m_e 8 9 0 0 0 (-1) (-1), m_e 9 10 51 0 0 0 0, m_e 10 11 4 0 0 0 0, m_e 11 14 17 12 0 4 0, m_e 14 17 17 109 4 2 0, m_e 17 18 2 1 0 0 0, m_e 18 19 30 0 0 0 0, m_e 19 44 61 56 5 0 0, m_e 44 45 4 0 0 0 0, m_e 45 46 2 1 0 0 0, m_e 46 49 40 268 71 65 0, m_e 49 50 51 0 0 0 0, m_e 50 51 4 0 0 0 0, m_e 51 52 2 1 0 0 0, m_e 52 55 40 271 72 65 0, m_e 55 56 51 0 0 0 0, m_e 56 57 4 0 0 0 0, m_e 57 58 2 1 0 0 0, m_e 58 61 40 274 73 65 0, m_e 61 62 51 0 0 0 0]
def t_X4_plainTelling : List m_E := [m_e 0 1 4 0 0 0 0, m_e 1 2 0 0 0 1 1, m_e 2 5 40 277 75 65 0, m_e 5 6 4 0 0 0 0, m_e 6 9 17 12 0 4 0, m_e 9 12 17 112 5 2 0, m_e 12 13 2 1 0 0 0, m_e 13 14 30 0 0 0 0, m_e 14 15 51 0 0 0 0]
def t_X4_mumblingTelling : List m_E := [m_e 0 1 4 0 0 0 0, m_e 1 2 0 0 0 2 2, m_e 2 5 40 277 75 65 0, m_e 5 6 4 0 0 0 0, m_e 6 7 2 1 0 0 0, m_e 7 10 40 268 71 65 0, m_e 10 12 0 0 1 100 100, m_e 12 13 9 0 0 0 0, m_e 13 14 51 0 0 0 0]
def t_X4_chantingTelling : List m_E := [m_e 0 1 4 0 0 0 0, m_e 1 2 0 0 0 3 3, m_e 2 5 40 277 75 65 0, m_e 5 6 4 0 0 0 0, m_e 6 7 2 1 0 0 0, m_e 7 10 40 271 72 65 0, m_e 10 11 5 2 0 0 0, m_e 11 12 2 2 0 0 0, m_e 12 13 4 0 0 0 0, m_e 13 14 2 1 0 0 0, m_e 14 17 40 268 71 65 0, m_e 17 18 9 0 0 0 0, m_e 18 19 51 0 0 0 0]
def t_X4_bribe : List m_E := [m_e 0 1 4 0 0 0 0, m_e 1 2 2 1 0 0 0, m_e 2 5 40 106 84 65 0, m_e 5 8 20 10 1 5 0, m_e 8 9 0 0 0 (-1) (-1), m_e 9 10 51 0 0 0 0, m_e 10 11 4 0 0 0 0, m_e 11 14 17 12 0 4 0, m_e 14 17 17 109 4 2 0, m_e 17 18 2 1 0 0 0, m_e 18 19 30 0 0 0 0, m_e 19 20 0 0 0 2 2, m_e 20 23 21 31 1 11 0, m_e 23 24 4 0 0 0 0, m_e 24 25 0 0 0 5 5, m_e 25 28 40 277 75 65 0, m_e 28 30 0 0 1 60 60, m_e 30 31 51 0 0 0 0, m_e 31 32 4 0 0 0 0, m_e 32 33 0 0 0 4 4, m_e 33 36 40 277 75 65 0, m_e 36 37 4 0 0 0 0, m_e 37 40 17 12 0 4 0, m_e 40 43 17 115 6 2 0, m_e 43 44 2 1 0 0 0, m_e 44 45 30 0 0 0 0, m_e 45 46 51 0 0 0 0]
def t_X4_leave : List m_E := [m_e 0 1 4 0 0 0 0, m_e 1 3 0 0 1 31 31, m_e 3 4 4 0 0 0 0, m_e 4 7 17 280 8 4 0, m_e 7 8 9 0 2 0 0, m_e 8 9 2 1 0 0 0, m_e 9 10 9 0 0 0 0, m_e 10 13 18 280 8 4 0, m_e 13 14 50 0 0 0 0]
def t_X4_as : List m_E := [m_e 0 1 4 0 0 0 0, m_e 1 2 0 0 0 0 0, m_e 2 5 18 49 9 4 0, m_e 5 6 4 0 0 0 0, m_e 6 7 2 1 0 0 0, m_e 7 10 40 106 84 65 0, m_e 10 13 20 15 1 5 0, m_e 13 14 0 0 0 (-1) (-1), m_e 14 15 51 0 0 0 0, m_e 15 16 2 2 0 0 0, m_e 16 17 0 0 0 2 2, m_e 17 20 41 128 89 2 0, m_e 20 23 20 26 1 6 0, m_e 23 25 0 0 1 (-2) (-2), m_e 25 26 51 0 0 0 0, m_e 26 27 4 0 0 0 0, m_e 27 30 17 12 0 4 0, m_e 30 33 17 109 4 2 0, m_e 33 34 2 1 0 0 0, m_e 34 35 30 0 0 0 0, m_e 35 36 2 2 0 0 0, m_e 36 39 21 43 2 7 0, m_e 39 40 0 0 0 1 1, m_e 40 43 19 48 0 8 0, m_e 43 44 4 0 0 0 0, m_e 44 45 0 0 0 2 2, m_e 45 48 40 64 80 65 0, m_e 48 49 51 0 0 0 0]
def t_X4_trace : List m_E := [m_e 0 1 4 0 0 0 0, m_e 1 4 17 280 8 4 0, m_e 4 5 51 0 0 0 0]
def t_X4_fault : List m_E := [m_e 0 1 4 0 0 0 0, m_e 1 4 17 49 9 4 0, m_e 4 5 51 0 0 0 0]
def t_X4_many : List m_E := [m_e 0 1 2 1 0 0 0, m_e 1 36 60 84 6 0 0, m_e 36 37 4 0 0 0 0, m_e 37 40 17 12 0 4 0, m_e 40 43 17 118 0 2 0, m_e 43 44 51 0 0 0 0, m_e 44 45 4 0 0 0 0, m_e 45 48 17 12 0 4 0, m_e 48 51 17 82 1 2 0, m_e 51 52 51 0 0 0 0, m_e 52 53 4 0 0 0 0, m_e 53 56 17 12 0 4 0, m_e 56 59 40 283 17 32 0, m_e 59 60 51 0 0 0 0, m_e 60 61 4 0 0 0 0, m_e 61 64 17 24 2 4 0, m_e 64 65 4 0 0 0 0, m_e 65 68 17 12 0 4 0, m_e 68 71 40 88 0 1 0, m_e 71 72 4 0 0 0 0, m_e 72 75 17 24 2 4 0, m_e 75 78 40 178 4 0 0, m_e 78 79 51 0 0 0 0, m_e 79 80 4 0 0 0 0, m_e 80 83 17 79 7 4 0, m_e 83 84 51 0 0 0 0, m_e 84 86 0 0 1 (-2) (-2), m_e 86 87 51 0 0 0 0]
def t_X4_faulted : List m_E := [m_e 0 1 4 0 0 0 0, m_e 1 2 2 1 0 0 0, m_e 2 5 18 49 9 4 0, m_e 5 7 0 0 1 (-10) (-10), m_e 7 8 2 1 0 0 0, m_e 8 9 9 0 1 0 0, m_e 9 10 51 0 0 0 0]
def t_X4_refusalOf : List m_E := [m_e 0 1 2 1 0 0 0, m_e 1 4 41 220 85 1 0, m_e 4 7 20 9 1 5 0, m_e 7 8 0 0 0 (-1) (-1), m_e 8 9 51 0 0 0 0, m_e 9 10 2 2 0 0 0, m_e 10 13 20 16 1 6 0, m_e 13 15 0 0 1 (-2) (-2), m_e 15 16 51 0 0 0 0, m_e 16 17 4 0 0 0 0, m_e 17 20 40 154 82 64 0, m_e 20 23 20 27 0 7 0, m_e 23 24 0 0 0 0 0, m_e 24 27 19 29 0 5 0, m_e 27 29 0 0 1 (-3) (-3), m_e 29 30 51 0 0 0 0]
def t_X4_hasShower : List m_E := [m_e 0 1 4 0 0 0 0, m_e 1 4 17 12 0 4 0, m_e 4 7 17 118 0 2 0, m_e 7 10 20 14 5 7 0, m_e 10 11 0 0 0 1 1, m_e 11 14 19 15 0 4 0, m_e 14 15 0 0 0 0 0, m_e 15 16 51 0 0 0 0]
def t_X4_isLine : List m_E := [m_e 0 1 2 1 0 0 0, m_e 1 4 20 19 2 18 0, m_e 4 5 2 1 0 0 0, m_e 5 6 4 0 0 0 0, m_e 6 9 17 12 0 4 0, m_e 9 12 17 118 0 2 0, m_e 12 15 21 19 3 7 0, m_e 15 16 0 0 0 1 1, m_e 16 19 19 20 0 4 0, m_e 19 20 0 0 0 0 0, m_e 20 21 51 0 0 0 0]
def t_X4_isCrier : List m_E := [m_e 0 1 2 1 0 0 0, m_e 1 4 20 19 2 18 0, m_e 4 5 2 1 0 0 0, m_e 5 6 4 0 0 0 0, m_e 6 9 17 12 0 4 0, m_e 9 12 17 82 1 2 0, m_e 12 15 21 19 3 7 0, m_e 15 16 0 0 0 1 1, m_e 16 19 19 20 0 4 0, m_e 19 20 0 0 0 0 0, m_e 20 21 51 0 0 0 0]
def t_X4_isField : List m_E := [m_e 0 1 2 0 0 0 0, m_e 1 4 20 13 2 12 0, m_e 4 5 2 0 0 0 0, m_e 5 6 0 0 0 4 4, m_e 6 9 21 13 3 7 0, m_e 9 10 0 0 0 1 1, m_e 10 13 19 14 0 4 0, m_e 13 14 0 0 0 0 0, m_e 14 15 51 0 0 0 0]
def t_X4_isHour : List m_E := [m_e 0 1 2 0 0 0 0, m_e 1 4 20 14 2 13 0, m_e 4 5 2 0 0 0 0, m_e 5 7 0 0 1 6 6, m_e 7 10 21 14 3 7 0, m_e 10 11 0 0 0 1 1, m_e 11 14 19 15 0 4 0, m_e 14 15 0 0 0 0 0, m_e 15 16 51 0 0 0 0]
def t_X4_isSheet : List m_E := [m_e 0 1 2 0 0 0 0, m_e 1 4 20 13 2 12 0, m_e 4 5 2 0 0 0 0, m_e 5 6 0 0 0 4 4, m_e 6 9 21 13 3 7 0, m_e 9 10 0 0 0 1 1, m_e 10 13 19 14 0 4 0, m_e 13 14 0 0 0 0 0, m_e 14 15 51 0 0 0 0]
def t_X4_isLane : List m_E := [m_e 0 1 2 0 0 0 0, m_e 1 4 20 13 2 12 0, m_e 4 5 2 0 0 0 0, m_e 5 6 0 0 0 3 3, m_e 6 9 21 13 3 7 0, m_e 9 10 0 0 0 1 1, m_e 10 13 19 14 0 4 0, m_e 13 14 0 0 0 0 0, m_e 14 15 51 0 0 0 0]
def t_X4_isWithin : List m_E := [m_e 0 1 2 0 0 0 0, m_e 1 4 20 13 2 12 0, m_e 4 5 2 0 0 0 0, m_e 5 6 2 1 0 0 0, m_e 6 9 21 13 4 7 0, m_e 9 10 0 0 0 1 1, m_e 10 13 19 14 0 4 0, m_e 13 14 0 0 0 0 0, m_e 14 15 51 0 0 0 0]
def t_X5_in : List m_E := [m_e 0 1 3 0 0 0 0, m_e 1 2 3 2 0 0 0, m_e 2 3 14 0 0 0 0, m_e 3 6 20 17 2 14 0, m_e 6 7 3 0 0 0 0, m_e 7 9 3 4 1 0 0, m_e 9 10 14 0 0 0 0, m_e 10 13 20 17 4 7 0, m_e 13 14 0 0 0 1 1, m_e 14 17 19 18 0 4 0, m_e 17 18 0 0 0 0 0, m_e 18 19 51 0 0 0 0]
def t_X5_lost : List m_E := [m_el 0 3 1 85 2 (-9223372036854775808), m_e 3 4 52 0 0 0 0]
def t_X5_bits : List m_E := [m_e 0 1 0 0 0 0 0, m_e 1 2 5 1 0 0 0, m_e 2 3 2 0 0 0 0, m_e 3 4 5 2 0 0 0, m_e 4 5 2 2 0 0 0, m_e 5 8 20 21 5 16 0, m_e 8 9 2 1 0 0 0, m_e 9 10 2 2 0 0 0, m_e 10 11 0 0 0 1 1, m_e 11 12 9 0 3 0 0, m_e 12 13 9 0 0 0 0, m_e 13 14 5 1 0 0 0, m_e 14 15 2 2 0 0 0, m_e 15 16 0 0 0 1 1, m_e 16 17 9 0 7 0 0, m_e 17 18 5 2 0 0 0, m_e 18 21 19 4 0 (-14) 0, m_e 21 22 2 1 0 0 0, m_e 22 23 51 0 0 0 0]
def t_X5_share : List m_E := [m_e 0 1 3 0 0 0 0, m_e 1 3 6 5 1 0 0, m_e 3 4 3 2 0 0 0, m_e 4 6 6 7 1 0 0, m_e 6 8 3 7 1 0 0, m_el 8 9 1 0 0 0, m_e 9 10 14 0 0 0 0, m_e 10 13 20 31 0 21 0, m_e 13 15 3 5 1 0 0, m_e 15 17 3 7 1 0 0, m_e 17 18 37 0 0 0 0, m_e 18 20 6 9 1 0 0, m_e 20 22 3 7 1 0 0, m_e 22 24 6 5 1 0 0, m_e 24 26 3 9 1 0 0, m_e 26 28 6 7 1 0 0, m_e 28 31 19 6 0 (-22) 0, m_e 31 33 2 4 1 0 0, m_e 33 36 20 40 1 7 0, m_e 36 37 3 0 0 0 0, m_e 37 40 19 41 0 4 0, m_e 40 41 3 2 0 0 0, m_e 41 43 3 5 1 0 0, m_e 43 44 36 0 0 0 0, m_e 44 45 52 0 0 0 0]
def t_X5_refused : List m_E := [m_e 0 1 4 0 0 0 0, m_e 1 2 0 0 0 0 0, m_e 2 5 18 87 0 5 0, m_e 5 6 2 1 0 0 0, m_e 6 7 51 0 0 0 0]
def t_X5_failed : List m_E := [m_e 0 1 4 0 0 0 0, m_e 1 2 2 1 0 0 0, m_e 2 5 18 87 0 5 0, m_e 5 7 0 0 1 (-10) (-10), m_e 7 8 2 1 0 0 0, m_e 8 9 9 0 1 0 0, m_e 9 10 51 0 0 0 0]
def t_X5_failedLong : List m_E := [m_e 0 1 4 0 0 0 0, m_e 1 2 2 1 0 0 0, m_e 2 5 18 87 0 5 0, m_e 5 8 41 91 91 0 0, m_e 8 9 52 0 0 0 0]
def t_X5_noLine : List m_E := [m_e 0 1 2 1 0 0 0, m_e 1 2 11 0 0 0 0, m_el 2 3 1 0 0 0, m_e 3 4 4 0 0 0 0, m_e 4 7 17 95 1 5 0, m_e 7 8 11 0 0 0 0, m_el 8 9 1 0 1 1, m_e 9 10 10 0 1 0 0, m_e 10 13 41 98 90 3 0, m_e 13 16 20 20 1 7 0, m_e 16 17 0 0 0 1 1, m_e 17 20 19 21 0 4 0, m_e 20 21 0 0 0 0 0, m_e 21 22 51 0 0 0 0]
def t_X5_noCrier : List m_E := [m_e 0 1 2 1 0 0 0, m_e 1 2 11 0 0 0 0, m_el 2 3 1 0 0 0, m_e 3 4 4 0 0 0 0, m_e 4 7 17 102 2 5 0, m_e 7 8 11 0 0 0 0, m_el 8 9 1 0 1 1, m_e 9 10 10 0 1 0 0, m_e 10 13 41 98 90 3 0, m_e 13 16 20 20 1 7 0, m_e 16 17 0 0 0 1 1, m_e 17 20 19 21 0 4 0, m_e 20 21 0 0 0 0 0, m_e 21 22 51 0 0 0 0]
def t_X5_noField : List m_E := [m_e 0 1 2 0 0 0 0, m_e 1 2 11 0 0 0 0, m_el 2 3 1 0 0 0, m_el 3 6 1 105 2 3, m_e 6 9 41 98 90 3 0, m_e 9 12 20 16 1 7 0, m_e 12 13 0 0 0 1 1, m_e 13 16 19 17 0 4 0, m_e 16 17 0 0 0 0 0, m_e 17 18 51 0 0 0 0]
def t_X5_isHour : List m_E := [m_e 0 1 2 0 0 0 0, m_e 1 2 11 0 0 0 0, m_el 2 3 1 0 0 0, m_el 3 6 1 107 2 5, m_e 6 9 41 98 90 3 0, m_e 9 10 51 0 0 0 0]
def t_X5_codeAt : List m_E := [m_e 0 1 4 0 0 0 0, m_e 1 4 17 109 9 5 0, m_e 4 5 2 2 0 0 0, m_e 5 8 21 22 3 17 0, m_e 8 9 4 0 0 0 0, m_e 9 12 17 79 31 5 0, m_e 12 13 2 1 0 0 0, m_e 13 14 4 0 0 0 0, m_e 14 17 17 109 9 5 0, m_e 17 18 9 0 0 0 0, m_e 18 19 30 0 0 0 0, m_e 19 22 19 24 0 5 0, m_e 22 24 0 0 1 (-9) (-9), m_e 24 25 51 0 0 0 0]
def t_X5_figure : List m_E := [m_e 0 1 4 0 0 0 0, m_e 1 2 2 1 0 0 0, m_e 2 3 2 2 0 0 0, m_e 3 6 40 112 101 82 0, m_e 6 8 0 0 1 48 48, m_e 8 9 9 0 1 0 0, m_e 9 11 5 5 1 0 0, m_e 11 13 2 5 1 0 0, m_e 13 14 11 0 0 0 0, m_e 14 15 2 3 0 0 0, m_e 15 16 11 0 0 0 0, m_e 16 18 2 4 1 0 0, m_e 18 19 11 0 0 0 0, m_e 19 22 41 98 90 3 0, m_e 22 25 20 28 1 6 0, m_e 25 27 0 0 1 (-9) (-9), m_e 27 28 51 0 0 0 0, m_e 28 29 4 0 0 0 0, m_e 29 30 15 0 0 0 0, m_e 30 33 17 109 9 5 0, m_e 33 34 0 0 0 1 1, m_e 34 35 9 0 0 0 0, m_e 35 38 18 109 9 5 0, m_e 38 40 2 5 1 0 0, m_e 40 41 51 0 0 0 0]
def t_X5_readsLine : List m_E := [m_e 0 1 4 0 0 0 0, m_e 1 4 17 116 10 5 0, m_e 4 6 0 0 1 6 6, m_e 6 9 21 20 0 14 0, m_e 9 10 4 0 0 0 0, m_e 10 11 2 1 0 0 0, m_e 11 12 2 2 0 0 0, m_e 12 15 40 112 101 82 0, m_e 15 17 0 0 1 44 44, m_e 17 20 21 22 0 5 0, m_e 20 21 0 0 0 0 0, m_e 21 22 51 0 0 0 0, m_e 22 23 4 0 0 0 0, m_e 23 24 15 0 0 0 0, m_e 24 27 17 109 9 5 0, m_e 27 28 0 0 0 1 1, m_e 28 29 9 0 0 0 0, m_e 29 32 18 109 9 5 0, m_e 32 33 4 0 0 0 0, m_e 33 36 17 28 12 5 0, m_e 36 37 4 0 0 0 0, m_e 37 40 17 116 10 5 0, m_e 40 41 4 0 0 0 0, m_e 41 42 2 1 0 0 0, m_e 42 43 2 2 0 0 0, m_e 43 44 0 0 0 0 0, m_e 44 46 0 0 1 9 9, m_e 46 49 40 119 102 84 0, m_e 49 50 31 0 0 0 0, m_e 50 51 4 0 0 0 0, m_e 51 54 17 31 13 5 0, m_e 54 55 4 0 0 0 0, m_e 55 58 17 116 10 5 0, m_e 58 59 4 0 0 0 0, m_e 59 62 17 28 12 5 0, m_e 62 63 4 0 0 0 0, m_e 63 66 17 116 10 5 0, m_e 66 67 30 0 0 0 0, m_e 67 70 20 75 3 8 0, m_e 70 72 0 0 1 (-9) (-9), m_e 72 75 19 83 0 11 0, m_e 75 76 4 0 0 0 0, m_e 76 77 2 1 0 0 0, m_e 77 78 2 2 0 0 0, m_e 78 79 0 0 0 0 0, m_e 79 80 0 0 0 3 3, m_e 80 83 40 119 102 84 0, m_e 83 84 31 0 0 0 0, m_e 84 85 4 0 0 0 0, m_e 85 86 15 0 0 0 0, m_e 86 89 17 116 10 5 0, m_e 89 90 0 0 0 1 1, m_e 90 91 9 0 0 0 0, m_e 91 94 18 116 10 5 0, m_e 94 95 4 0 0 0 0, m_e 95 98 17 31 13 5 0, m_e 98 99 4 0 0 0 0, m_e 99 102 17 116 10 5 0, m_e 102 103 0 0 0 1 1, m_e 103 104 9 0 1 0 0, m_e 104 105 30 0 0 0 0, m_e 105 108 20 112 2 7 0, m_e 108 109 0 0 0 1 1, m_e 109 112 19 113 0 4 0, m_e 112 113 0 0 0 0 0, m_e 113 114 51 0 0 0 0]
def t_X5_readsCrier : List m_E := [m_e 0 1 4 0 0 0 0, m_e 1 4 17 123 11 5 0, m_e 4 5 0 0 0 3 3, m_e 5 8 21 19 0 14 0, m_e 8 9 4 0 0 0 0, m_e 9 10 2 1 0 0 0, m_e 10 11 2 2 0 0 0, m_e 11 14 40 112 101 82 0, m_e 14 16 0 0 1 59 59, m_e 16 19 21 21 0 5 0, m_e 19 20 0 0 0 0 0, m_e 20 21 51 0 0 0 0, m_e 21 22 4 0 0 0 0, m_e 22 23 15 0 0 0 0, m_e 23 26 17 109 9 5 0, m_e 26 27 0 0 0 1 1, m_e 27 28 9 0 0 0 0, m_e 28 31 18 109 9 5 0, m_e 31 32 4 0 0 0 0, m_e 32 33 2 1 0 0 0, m_e 33 34 2 2 0 0 0, m_e 34 37 40 112 101 82 0, m_e 37 38 5 3 0 0 0, m_e 38 39 2 3 0 0 0, m_e 39 41 0 0 1 112 112, m_e 41 44 21 58 0 17 0, m_e 44 45 2 3 0 0 0, m_e 45 47 0 0 1 109 109, m_e 47 50 21 58 0 11 0, m_e 50 51 2 3 0 0 0, m_e 51 53 0 0 1 99 99, m_e 53 56 21 58 0 5 0, m_e 56 57 0 0 0 0 0, m_e 57 58 51 0 0 0 0, m_e 58 59 4 0 0 0 0, m_e 59 60 15 0 0 0 0, m_e 60 63 17 109 9 5 0, m_e 63 64 0 0 0 1 1, m_e 64 65 9 0 0 0 0, m_e 65 68 18 109 9 5 0, m_e 68 69 4 0 0 0 0, m_e 69 72 17 123 11 5 0, m_e 72 74 5 4 1 0 0, m_e 74 75 4 0 0 0 0, m_e 75 78 17 34 14 5 0, m_e 78 80 2 4 1 0 0, m_e 80 81 2 3 0 0 0, m_e 81 83 0 0 1 112 112, m_e 83 86 21 90 1 7 0, m_e 86 87 0 0 0 0 0, m_e 87 90 19 101 0 14 0, m_e 90 91 2 3 0 0 0, m_e 91 93 0 0 1 109 109, m_e 93 96 21 100 1 7 0, m_e 96 97 0 0 0 1 1, m_e 97 100 19 101 0 4 0, m_e 100 101 0 0 0 2 2, m_e 101 102 31 0 0 0 0, m_e 102 103 4 0 0 0 0, m_e 103 106 17 37 15 5 0, m_e 106 108 2 4 1 0 0, m_e 108 109 4 0 0 0 0, m_e 109 110 2 1 0 0 0, m_e 110 111 2 2 0 0 0, m_e 111 112 0 0 0 1 1, m_e 112 113 0 0 0 3 3, m_e 113 116 40 119 102 84 0, m_e 116 117 31 0 0 0 0, m_e 117 118 4 0 0 0 0, m_e 118 121 17 40 16 5 0, m_e 121 123 2 4 1 0 0, m_e 123 124 4 0 0 0 0, m_e 124 127 17 37 15 5 0, m_e 127 129 2 4 1 0 0, m_e 129 130 30 0 0 0 0, m_e 130 133 20 138 3 8 0, m_e 133 135 0 0 1 (-9) (-9), m_e 135 138 19 151 0 16 0, m_e 138 139 4 0 0 0 0, m_e 139 140 2 1 0 0 0, m_e 140 141 2 2 0 0 0, m_e 141 142 0 0 0 0 0, m_e 142 143 4 0 0 0 0, m_e 143 146 17 116 10 5 0, m_e 146 147 0 0 0 1 1, m_e 147 148 9 0 1 0 0, m_e 148 151 40 119 102 84 0, m_e 151 152 31 0 0 0 0, m_e 152 153 4 0 0 0 0, m_e 153 154 15 0 0 0 0, m_e 154 157 17 123 11 5 0, m_e 157 158 0 0 0 1 1, m_e 158 159 9 0 0 0 0, m_e 159 162 18 123 11 5 0, m_e 162 163 4 0 0 0 0, m_e 163 166 17 40 16 5 0, m_e 166 168 2 4 1 0 0, m_e 168 169 30 0 0 0 0, m_e 169 172 20 176 2 7 0, m_e 172 173 0 0 0 1 1, m_e 173 176 19 177 0 4 0, m_e 176 177 0 0 0 0 0, m_e 177 178 51 0 0 0 0]
def t_X5_readsShower : List m_E := [m_e 0 1 4 0 0 0 0, m_e 1 2 0 0 0 0 0, m_e 2 5 18 109 9 5 0, m_e 5 6 4 0 0 0 0, m_e 6 7 0 0 0 0 0, m_e 7 10 18 116 10 5 0, m_e 10 11 4 0 0 0 0, m_e 11 12 0 0 0 0 0, m_e 12 15 18 123 11 5 0, m_e 15 16 4 0 0 0 0, m_e 16 17 2 1 0 0 0, m_e 17 18 2 2 0 0 0, m_e 18 21 40 112 101 82 0, m_e 21 23 0 0 1 115 115, m_e 23 26 21 28 0 5 0, m_e 26 27 0 0 0 0 0, m_e 27 28 51 0 0 0 0, m_e 28 29 4 0 0 0 0, m_e 29 30 15 0 0 0 0, m_e 30 33 17 109 9 5 0, m_e 33 34 0 0 0 1 1, m_e 34 35 9 0 0 0 0, m_e 35 38 18 109 9 5 0, m_e 38 39 0 0 0 1 1, m_e 39 40 5 3 0 0 0, m_e 40 41 2 3 0 0 0, m_e 41 44 20 73 0 32 0, m_e 44 45 4 0 0 0 0, m_e 45 48 17 116 10 5 0, m_e 48 49 0 0 0 1 1, m_e 49 52 21 63 2 14 0, m_e 52 53 4 0 0 0 0, m_e 53 54 2 1 0 0 0, m_e 54 55 2 2 0 0 0, m_e 55 58 40 112 101 82 0, m_e 58 60 0 0 1 44 44, m_e 60 63 21 73 1 13 0, m_e 63 64 4 0 0 0 0, m_e 64 65 2 1 0 0 0, m_e 65 66 2 2 0 0 0, m_e 66 69 40 126 103 82 0, m_e 69 70 5 3 0 0 0, m_e 70 73 19 40 0 (-30) 0, m_e 73 74 2 3 0 0 0, m_e 74 77 20 103 0 29 0, m_e 77 78 4 0 0 0 0, m_e 78 81 17 123 11 5 0, m_e 81 82 0 0 0 1 1, m_e 82 85 21 93 2 11 0, m_e 85 86 4 0 0 0 0, m_e 86 89 17 109 9 5 0, m_e 89 90 2 2 0 0 0, m_e 90 93 21 103 3 13 0, m_e 93 94 4 0 0 0 0, m_e 94 95 2 1 0 0 0, m_e 95 96 2 2 0 0 0, m_e 96 99 40 130 104 82 0, m_e 99 100 5 3 0 0 0, m_e 100 103 19 73 0 (-27) 0, m_e 103 104 2 3 0 0 0, m_e 104 105 51 0 0 0 0]
def t_X5_cellsBarred : List m_E := [m_e 0 1 4 0 0 0 0, m_e 1 4 17 73 29 5 0, m_e 4 5 2 1 0 0 0, m_e 5 6 30 0 0 0 0, m_e 6 9 20 25 2 19 0, m_e 9 10 4 0 0 0 0, m_e 10 13 17 76 30 5 0, m_e 13 14 2 1 0 0 0, m_e 14 15 30 0 0 0 0, m_e 15 16 2 2 0 0 0, m_e 16 19 21 25 0 9 0, m_e 19 20 4 0 0 0 0, m_e 20 21 0 0 0 2 2, m_e 21 24 40 133 95 81 0, m_e 24 25 51 0 0 0 0, m_e 25 26 4 0 0 0 0, m_e 26 29 17 73 29 5 0, m_e 29 30 2 1 0 0 0, m_e 30 31 30 0 0 0 0, m_e 31 34 20 40 3 9 0, m_e 34 35 4 0 0 0 0, m_e 35 36 0 0 0 1 1, m_e 36 39 40 133 95 81 0, m_e 39 40 51 0 0 0 0, m_e 40 42 3 4 1 0 0, m_el 42 43 1 0 0 0, m_e 43 44 14 0 0 0 0, m_e 44 47 20 53 3 9 0, m_e 47 48 4 0 0 0 0, m_e 48 49 0 0 0 4 4, m_e 49 52 40 133 95 81 0, m_e 52 53 51 0 0 0 0, m_e 53 54 2 3 0 0 0, m_e 54 56 3 4 1 0 0, m_e 56 57 4 0 0 0 0, m_e 57 60 17 73 29 5 0, m_e 60 61 2 1 0 0 0, m_e 61 62 30 0 0 0 0, m_e 62 65 41 137 157 3 0, m_e 65 68 20 76 0 11 0, m_e 68 69 4 0 0 0 0, m_e 69 70 0 0 0 3 3, m_e 70 73 40 133 95 81 0, m_e 73 76 19 77 0 4 0, m_e 76 77 0 0 0 0 0, m_e 77 78 51 0 0 0 0]
def t_X5_shower : List m_E := [m_e 0 1 2 1 0 0 0, m_e 1 4 41 141 151 1 0, m_e 4 7 20 13 0 9 0, m_e 7 8 4 0 0 0 0, m_e 8 9 0 0 0 (-1) (-1), m_e 9 12 40 145 94 81 0, m_e 12 13 51 0 0 0 0, m_e 13 14 2 2 0 0 0, m_e 14 15 11 0 0 0 0, m_el 15 16 1 0 0 0, m_el 16 19 1 148 2 2, m_e 19 22 41 98 90 3 0, m_e 22 25 20 32 1 10 0, m_e 25 26 4 0 0 0 0, m_e 26 28 0 0 1 (-2) (-2), m_e 28 31 40 145 94 81 0, m_e 31 32 51 0 0 0 0, m_e 32 33 4 0 0 0 0, m_e 33 34 2 1 0 0 0, m_e 34 35 2 2 0 0 0, m_e 35 36 2 3 0 0 0, m_e 36 38 2 4 1 0 0, m_e 38 39 11 0 0 0 0, m_e 39 42 40 150 106 84 0, m_e 42 44 5 5 1 0 0, m_e 44 46 2 5 1 0 0, m_e 46 49 20 52 3 6 0, m_e 49 51 2 5 1 0 0, m_e 51 52 51 0 0 0 0, m_e 52 53 4 0 0 0 0, m_e 53 55 0 0 1 60 60, m_e 55 56 2 1 0 0 0, m_e 56 57 9 0 2 0 0, m_e 57 58 2 3 0 0 0, m_e 58 59 9 0 0 0 0, m_e 59 61 2 4 1 0 0, m_e 61 64 40 154 105 82 0, m_e 64 67 20 79 1 15 0, m_e 67 68 4 0 0 0 0, m_e 68 70 0 0 1 (-100) (-100), m_e 70 71 4 0 0 0 0, m_e 71 74 17 109 9 5 0, m_e 74 75 9 0 1 0 0, m_e 75 78 40 145 94 81 0, m_e 78 79 51 0 0 0 0, m_e 79 80 4 0 0 0 0, m_e 80 81 4 0 0 0 0, m_e 81 84 17 116 10 5 0, m_e 84 87 18 95 1 5 0, m_e 87 88 4 0 0 0 0, m_e 88 89 4 0 0 0 0, m_e 89 92 17 123 11 5 0, m_e 92 95 18 102 2 5 0, m_e 95 96 0 0 0 0 0, m_e 96 98 5 6 1 0 0, m_e 98 100 2 6 1 0 0, m_e 100 101 4 0 0 0 0, m_e 101 104 17 95 1 5 0, m_e 104 107 21 141 3 37 0, m_e 107 108 4 0 0 0 0, m_e 108 111 17 7 3 5 0, m_e 111 113 2 6 1 0 0, m_e 113 114 4 0 0 0 0, m_e 114 117 17 28 12 5 0, m_e 117 119 2 6 1 0 0, m_e 119 120 30 0 0 0 0, m_e 120 121 31 0 0 0 0, m_e 121 122 4 0 0 0 0, m_e 122 125 17 13 4 5 0, m_e 125 127 2 6 1 0 0, m_e 127 128 4 0 0 0 0, m_e 128 131 17 31 13 5 0, m_e 131 133 2 6 1 0 0, m_e 133 134 30 0 0 0 0, m_e 134 135 31 0 0 0 0, m_e 135 138 8 6 0 1 1, m_e 138 141 19 98 0 (-40) 0, m_e 141 142 0 0 0 0 0, m_e 142 144 5 6 1 0 0, m_e 144 146 2 6 1 0 0, m_e 146 147 4 0 0 0 0, m_e 147 150 17 102 2 5 0, m_e 150 153 21 201 3 51 0, m_e 153 154 4 0 0 0 0, m_e 154 157 17 16 5 5 0, m_e 157 159 2 6 1 0 0, m_e 159 160 4 0 0 0 0, m_e 160 163 17 34 14 5 0, m_e 163 165 2 6 1 0 0, m_e 165 166 30 0 0 0 0, m_e 166 167 31 0 0 0 0, m_e 167 168 4 0 0 0 0, m_e 168 171 17 19 6 5 0, m_e 171 173 2 6 1 0 0, m_e 173 174 4 0 0 0 0, m_e 174 177 17 37 15 5 0, m_e 177 179 2 6 1 0 0, m_e 179 180 30 0 0 0 0, m_e 180 181 31 0 0 0 0, m_e 181 182 4 0 0 0 0, m_e 182 185 17 22 7 5 0, m_e 185 187 2 6 1 0 0, m_e 187 188 4 0 0 0 0, m_e 188 191 17 40 16 5 0, m_e 191 193 2 6 1 0 0, m_e 193 194 30 0 0 0 0, m_e 194 195 31 0 0 0 0, m_e 195 198 8 6 0 1 1, m_e 198 201 19 144 0 (-54) 0, m_e 201 202 0 0 0 0 0, m_e 202 204 5 6 1 0 0, m_e 204 206 2 6 1 0 0, m_e 206 207 0 0 0 4 4, m_e 207 210 21 224 3 17 0, m_e 210 211 4 0 0 0 0, m_e 211 214 17 25 8 5 0, m_e 214 216 2 6 1 0 0, m_e 216 217 0 0 0 0 0, m_e 217 218 31 0 0 0 0, m_e 218 221 8 6 0 1 1, m_e 221 224 19 204 0 (-17) 0, m_e 224 225 4 0 0 0 0, m_e 225 226 0 0 0 0 0, m_e 226 229 18 157 26 5 0, m_e 229 230 4 0 0 0 0, m_e 230 231 4 0 0 0 0, m_e 231 234 17 102 2 5 0, m_e 234 237 40 145 94 81 0, m_e 237 238 51 0 0 0 0]
def t_X5_hourBy : List m_E := [m_e 0 1 2 2 0 0 0, m_e 1 2 4 0 0 0 0, m_e 2 5 17 22 7 5 0, m_e 5 6 2 1 0 0 0, m_e 6 7 30 0 0 0 0, m_e 7 10 21 15 3 8 0, m_e 10 12 0 0 1 (-9) (-9), m_e 12 15 19 30 0 18 0, m_e 15 16 2 2 0 0 0, m_e 16 17 4 0 0 0 0, m_e 17 20 17 22 7 5 0, m_e 20 21 2 1 0 0 0, m_e 21 22 30 0 0 0 0, m_e 22 23 9 0 1 0 0, m_e 23 24 4 0 0 0 0, m_e 24 27 17 19 6 5 0, m_e 27 28 2 1 0 0 0, m_e 28 29 30 0 0 0 0, m_e 29 30 34 0 0 0 0, m_e 30 31 51 0 0 0 0]
def t_X5_reads : List m_E := [m_e 0 1 4 0 0 0 0, m_e 1 4 17 43 17 5 0, m_e 4 5 2 1 0 0 0, m_e 5 7 0 0 1 (-9) (-9), m_e 7 8 31 0 0 0 0, m_e 8 9 4 0 0 0 0, m_e 9 12 17 46 18 5 0, m_e 12 13 2 1 0 0 0, m_e 13 15 0 0 1 (-9) (-9), m_e 15 16 31 0 0 0 0, m_e 16 17 0 0 0 0 0, m_e 17 18 5 2 0 0 0, m_e 18 19 2 2 0 0 0, m_e 19 20 4 0 0 0 0, m_e 20 23 17 102 2 5 0, m_e 23 26 21 101 3 78 0, m_e 26 27 4 0 0 0 0, m_e 27 28 2 2 0 0 0, m_e 28 29 2 1 0 0 0, m_e 29 32 40 160 108 82 0, m_e 32 33 5 3 0 0 0, m_e 33 34 2 3 0 0 0, m_e 34 37 20 73 2 39 0, m_e 37 38 4 0 0 0 0, m_e 38 41 17 43 17 5 0, m_e 41 42 2 1 0 0 0, m_e 42 43 30 0 0 0 0, m_e 43 46 20 56 2 13 0, m_e 46 47 2 3 0 0 0, m_e 47 48 4 0 0 0 0, m_e 48 51 17 43 17 5 0, m_e 51 52 2 1 0 0 0, m_e 52 53 30 0 0 0 0, m_e 53 56 21 73 3 20 0, m_e 56 57 4 0 0 0 0, m_e 57 60 17 43 17 5 0, m_e 60 61 2 1 0 0 0, m_e 61 62 2 3 0 0 0, m_e 62 63 31 0 0 0 0, m_e 63 64 4 0 0 0 0, m_e 64 67 17 46 18 5 0, m_e 67 68 2 1 0 0 0, m_e 68 69 2 2 0 0 0, m_e 69 70 31 0 0 0 0, m_e 70 73 19 95 0 25 0, m_e 73 74 2 3 0 0 0, m_e 74 77 20 95 2 21 0, m_e 77 78 2 3 0 0 0, m_e 78 79 4 0 0 0 0, m_e 79 82 17 43 17 5 0, m_e 82 83 2 1 0 0 0, m_e 83 84 30 0 0 0 0, m_e 84 87 21 95 1 11 0, m_e 87 88 4 0 0 0 0, m_e 88 91 17 46 18 5 0, m_e 91 92 2 1 0 0 0, m_e 92 94 0 0 1 (-9) (-9), m_e 94 95 31 0 0 0 0, m_e 95 98 8 2 0 1 1, m_e 98 101 19 18 0 (-80) 0, m_e 101 102 50 0 0 0 0]
def t_X5_given : List m_E := [m_e 0 1 2 2 0 0 0, m_e 1 4 20 10 5 9 0, m_e 4 5 2 2 0 0 0, m_e 5 6 0 0 0 1 1, m_e 6 7 9 0 1 0 0, m_e 7 10 19 11 0 4 0, m_e 10 11 0 0 0 0 0, m_e 11 12 5 3 0 0 0, m_e 12 13 4 0 0 0 0, m_e 13 16 17 16 5 5 0, m_e 16 17 2 1 0 0 0, m_e 17 18 30 0 0 0 0, m_e 18 21 20 25 1 7 0, m_e 21 22 2 2 0 0 0, m_e 22 25 19 42 0 20 0, m_e 25 26 4 0 0 0 0, m_e 26 29 17 16 5 5 0, m_e 29 30 2 1 0 0 0, m_e 30 31 30 0 0 0 0, m_e 31 32 0 0 0 1 1, m_e 32 35 21 39 1 7 0, m_e 35 36 2 3 0 0 0, m_e 36 39 19 42 0 6 0, m_e 39 40 2 3 0 0 0, m_e 40 41 2 2 0 0 0, m_e 41 42 9 0 0 0 0, m_e 42 43 51 0 0 0 0]
def t_X5_coughs : List m_E := [m_e 0 1 4 0 0 0 0, m_e 1 4 17 25 8 5 0, m_e 4 5 2 1 0 0 0, m_e 5 6 30 0 0 0 0, m_e 6 7 2 2 0 0 0, m_e 7 8 9 0 7 0 0, m_e 8 9 0 0 0 1 1, m_e 9 10 9 0 3 0 0, m_e 10 11 0 0 0 1 1, m_e 11 14 21 18 1 7 0, m_e 14 15 0 0 0 1 1, m_e 15 18 19 19 0 4 0, m_e 18 19 0 0 0 0 0, m_e 19 20 51 0 0 0 0]
def t_X5_falls : List m_E := [m_e 0 1 2 1 0 0 0, m_e 1 2 0 0 0 1 1, m_e 2 3 9 0 0 0 0, m_e 3 4 0 0 0 4 4, m_e 4 5 35 0 0 0 0, m_e 5 7 5 4 1 0 0, m_e 7 8 4 0 0 0 0, m_e 8 9 2 1 0 0 0, m_e 9 10 2 2 0 0 0, m_e 10 13 40 163 111 82 0, m_e 13 16 20 20 1 7 0, m_e 16 17 2 1 0 0 0, m_e 17 20 19 37 0 20 0, m_e 20 21 4 0 0 0 0, m_e 21 23 2 4 1 0 0, m_e 23 24 2 2 0 0 0, m_e 24 27 40 163 111 82 0, m_e 27 30 20 35 1 8 0, m_e 30 32 2 4 1 0 0, m_e 32 35 19 37 0 5 0, m_e 35 37 0 0 1 (-9) (-9), m_e 37 39 5 5 1 0 0, m_e 39 41 2 5 1 0 0, m_e 41 44 20 57 3 16 0, m_e 44 45 4 0 0 0 0, m_e 45 46 15 0 0 0 0, m_e 46 49 17 166 22 5 0, m_e 49 50 2 3 0 0 0, m_e 50 51 9 0 0 0 0, m_e 51 54 18 166 22 5 0, m_e 54 57 19 84 0 30 0, m_e 57 58 4 0 0 0 0, m_e 58 61 17 52 20 5 0, m_e 61 63 0 0 1 6 6, m_e 63 65 2 5 1 0 0, m_e 65 66 9 0 2 0 0, m_e 66 67 2 2 0 0 0, m_e 67 68 9 0 0 0 0, m_e 68 69 16 0 0 0 0, m_e 69 70 30 0 0 0 0, m_e 70 71 2 3 0 0 0, m_e 71 72 9 0 0 0 0, m_e 72 73 31 0 0 0 0, m_e 73 74 4 0 0 0 0, m_e 74 77 17 55 21 5 0, m_e 77 79 2 5 1 0 0, m_e 79 80 16 0 0 0 0, m_e 80 81 30 0 0 0 0, m_e 81 82 2 3 0 0 0, m_e 82 83 9 0 0 0 0, m_e 83 84 31 0 0 0 0, m_e 84 85 50 0 0 0 0]
def t_X5_rains : List m_E := [m_e 0 1 4 0 0 0 0, m_e 1 2 0 0 0 0 0, m_e 2 5 18 166 22 5 0, m_e 5 6 0 0 0 0 0, m_e 6 7 5 1 0 0 0, m_e 7 8 2 1 0 0 0, m_e 8 10 0 0 1 24 24, m_e 10 13 21 26 3 16 0, m_e 13 14 4 0 0 0 0, m_e 14 17 17 52 20 5 0, m_e 17 18 2 1 0 0 0, m_e 18 19 0 0 0 0 0, m_e 19 20 31 0 0 0 0, m_e 20 23 8 1 0 1 1, m_e 23 26 19 7 0 (-16) 0, m_e 26 27 0 0 0 0 0, m_e 27 28 5 1 0 0 0, m_e 28 29 2 1 0 0 0, m_e 29 30 0 0 0 4 4, m_e 30 33 21 46 3 16 0, m_e 33 34 4 0 0 0 0, m_e 34 37 17 55 21 5 0, m_e 37 38 2 1 0 0 0, m_e 38 39 0 0 0 0 0, m_e 39 40 31 0 0 0 0, m_e 40 43 8 1 0 1 1, m_e 43 46 19 28 0 (-15) 0, m_e 46 47 0 0 0 0 0, m_e 47 48 5 1 0 0 0, m_e 48 49 2 1 0 0 0, m_e 49 50 4 0 0 0 0, m_e 50 53 17 95 1 5 0, m_e 53 56 21 133 3 80 0, m_e 56 57 4 0 0 0 0, m_e 57 58 2 1 0 0 0, m_e 58 61 40 169 109 81 0, m_e 61 62 4 0 0 0 0, m_e 62 65 17 49 19 5 0, m_e 65 66 2 1 0 0 0, m_e 66 67 4 0 0 0 0, m_e 67 70 17 46 18 5 0, m_e 70 71 2 1 0 0 0, m_e 71 72 30 0 0 0 0, m_e 72 75 20 79 3 7 0, m_e 75 76 0 0 0 0 0, m_e 76 79 19 95 0 19 0, m_e 79 80 4 0 0 0 0, m_e 80 81 4 0 0 0 0, m_e 81 84 17 46 18 5 0, m_e 84 85 2 1 0 0 0, m_e 85 86 30 0 0 0 0, m_e 86 87 4 0 0 0 0, m_e 87 90 17 7 3 5 0, m_e 90 91 2 1 0 0 0, m_e 91 92 30 0 0 0 0, m_e 92 95 40 173 110 82 0, m_e 95 96 31 0 0 0 0, m_e 96 97 4 0 0 0 0, m_e 97 100 17 46 18 5 0, m_e 100 101 2 1 0 0 0, m_e 101 102 30 0 0 0 0, m_e 102 105 20 127 2 25 0, m_e 105 106 4 0 0 0 0, m_e 106 107 4 0 0 0 0, m_e 107 110 17 13 4 5 0, m_e 110 111 2 1 0 0 0, m_e 111 112 30 0 0 0 0, m_e 112 113 4 0 0 0 0, m_e 113 116 17 43 17 5 0, m_e 116 117 2 1 0 0 0, m_e 117 118 30 0 0 0 0, m_e 118 119 4 0 0 0 0, m_e 119 122 17 49 19 5 0, m_e 122 123 2 1 0 0 0, m_e 123 124 30 0 0 0 0, m_e 124 127 40 176 112 83 0, m_e 127 130 8 1 0 1 1, m_e 130 133 19 48 0 (-82) 0, m_e 133 134 50 0 0 0 0]
def t_X5_wetOfAll : List m_E := [m_e 0 1 4 0 0 0 0, m_e 1 4 17 55 21 5 0, m_e 4 5 0 0 0 0 0, m_e 5 6 30 0 0 0 0, m_e 6 7 4 0 0 0 0, m_e 7 10 17 55 21 5 0, m_e 10 11 0 0 0 1 1, m_e 11 12 30 0 0 0 0, m_e 12 13 9 0 0 0 0, m_e 13 14 4 0 0 0 0, m_e 14 17 17 55 21 5 0, m_e 17 18 0 0 0 2 2, m_e 18 19 30 0 0 0 0, m_e 19 20 9 0 0 0 0, m_e 20 21 4 0 0 0 0, m_e 21 24 17 55 21 5 0, m_e 24 25 0 0 0 3 3, m_e 25 26 30 0 0 0 0, m_e 26 27 9 0 0 0 0, m_e 27 28 51 0 0 0 0]
def t_X5_thoseThatHang : List m_E := [m_e 0 1 0 0 0 0 0, m_e 1 2 5 1 0 0 0, m_e 2 3 0 0 0 0 0, m_e 3 4 5 2 0 0 0, m_e 4 5 2 2 0 0 0, m_e 5 6 4 0 0 0 0, m_e 6 9 17 95 1 5 0, m_e 9 12 21 37 3 28 0, m_e 12 13 2 1 0 0 0, m_e 13 14 4 0 0 0 0, m_e 14 17 17 43 17 5 0, m_e 17 18 2 2 0 0 0, m_e 18 19 30 0 0 0 0, m_e 19 22 20 28 3 9 0, m_e 22 23 0 0 0 1 1, m_e 23 24 2 2 0 0 0, m_e 24 25 9 0 6 0 0, m_e 25 28 19 29 0 4 0, m_e 28 29 0 0 0 0 0, m_e 29 30 9 0 4 0 0, m_e 30 31 5 1 0 0 0, m_e 31 34 8 2 0 1 1, m_e 34 37 19 4 0 (-30) 0, m_e 37 38 2 1 0 0 0, m_e 38 39 51 0 0 0 0]
def t_X5_thoseOfMud : List m_E := [m_e 0 1 0 0 0 0 0, m_e 1 2 5 1 0 0 0, m_e 2 3 0 0 0 0 0, m_e 3 4 5 2 0 0 0, m_e 4 5 2 2 0 0 0, m_e 5 6 4 0 0 0 0, m_e 6 9 17 95 1 5 0, m_e 9 12 21 46 3 37 0, m_e 12 13 2 1 0 0 0, m_e 13 14 4 0 0 0 0, m_e 14 17 17 43 17 5 0, m_e 17 18 2 2 0 0 0, m_e 18 19 30 0 0 0 0, m_e 19 22 20 37 2 18 0, m_e 22 23 4 0 0 0 0, m_e 23 26 17 46 18 5 0, m_e 26 27 2 2 0 0 0, m_e 27 28 30 0 0 0 0, m_e 28 31 20 37 3 9 0, m_e 31 32 0 0 0 1 1, m_e 32 33 2 2 0 0 0, m_e 33 34 9 0 6 0 0, m_e 34 37 19 38 0 4 0, m_e 37 38 0 0 0 0 0, m_e 38 39 9 0 4 0 0, m_e 39 40 5 1 0 0 0, m_e 40 43 8 2 0 1 1, m_e 43 46 19 4 0 (-39) 0, m_e 46 47 2 1 0 0 0, m_e 47 48 51 0 0 0 0]
def t_X5_ofLine : List m_E := [m_e 0 1 4 0 0 0 0, m_e 1 2 2 1 0 0 0, m_e 2 5 40 180 97 81 0, m_e 5 8 20 10 0 5 0, m_e 8 9 0 0 0 (-1) (-1), m_e 9 10 51 0 0 0 0, m_e 10 11 4 0 0 0 0, m_e 11 14 40 183 113 80 0, m_e 14 15 2 2 0 0 0, m_e 15 48 60 83 7 0 0, m_e 48 49 4 0 0 0 0, m_e 49 52 17 7 3 5 0, m_e 52 53 2 1 0 0 0, m_e 53 54 30 0 0 0 0, m_e 54 55 51 0 0 0 0, m_e 55 56 4 0 0 0 0, m_e 56 59 17 13 4 5 0, m_e 59 60 2 1 0 0 0, m_e 60 61 30 0 0 0 0, m_e 61 62 51 0 0 0 0, m_e 62 63 4 0 0 0 0, m_e 63 66 17 43 17 5 0, m_e 66 67 2 1 0 0 0, m_e 67 68 30 0 0 0 0, m_e 68 69 51 0 0 0 0, m_e 69 70 4 0 0 0 0, m_e 70 73 17 46 18 5 0, m_e 73 74 2 1 0 0 0, m_e 74 75 30 0 0 0 0, m_e 75 76 51 0 0 0 0, m_e 76 77 4 0 0 0 0, m_e 77 80 17 49 19 5 0, m_e 80 81 2 1 0 0 0, m_e 81 82 30 0 0 0 0, m_e 82 83 51 0 0 0 0, m_e 83 85 0 0 1 (-2) (-2), m_e 85 86 51 0 0 0 0]
def t_X5_ofCrier : List m_E := [m_e 0 1 4 0 0 0 0, m_e 1 2 2 1 0 0 0, m_e 2 5 40 186 98 81 0, m_e 5 8 20 10 0 5 0, m_e 8 9 0 0 0 (-1) (-1), m_e 9 10 51 0 0 0 0, m_e 10 11 4 0 0 0 0, m_e 11 14 40 183 113 80 0, m_e 14 15 0 0 0 0 0, m_e 15 16 5 3 0 0 0, m_e 16 17 0 0 0 0 0, m_e 17 19 5 4 1 0 0, m_e 19 21 2 4 1 0 0, m_e 21 22 4 0 0 0 0, m_e 22 25 17 95 1 5 0, m_e 25 28 21 56 3 31 0, m_e 28 29 2 3 0 0 0, m_e 29 30 4 0 0 0 0, m_e 30 33 17 46 18 5 0, m_e 33 35 2 4 1 0 0, m_e 35 36 30 0 0 0 0, m_e 36 37 2 1 0 0 0, m_e 37 40 21 47 1 10 0, m_e 40 41 0 0 0 1 1, m_e 41 43 2 4 1 0 0, m_e 43 44 9 0 6 0 0, m_e 44 47 19 48 0 4 0, m_e 47 48 0 0 0 0 0, m_e 48 49 9 0 4 0 0, m_e 49 50 5 3 0 0 0, m_e 50 53 8 4 0 1 1, m_e 53 56 19 19 0 (-34) 0, m_e 56 57 2 2 0 0 0, m_e 57 92 60 127 8 0 0, m_e 92 93 4 0 0 0 0, m_e 93 96 17 16 5 5 0, m_e 96 97 2 1 0 0 0, m_e 97 98 30 0 0 0 0, m_e 98 99 51 0 0 0 0, m_e 99 100 4 0 0 0 0, m_e 100 103 17 19 6 5 0, m_e 103 104 2 1 0 0 0, m_e 104 105 30 0 0 0 0, m_e 105 106 51 0 0 0 0, m_e 106 107 4 0 0 0 0, m_e 107 110 17 22 7 5 0, m_e 110 111 2 1 0 0 0, m_e 111 112 30 0 0 0 0, m_e 112 113 51 0 0 0 0, m_e 113 114 2 3 0 0 0, m_e 114 115 51 0 0 0 0, m_e 115 116 4 0 0 0 0, m_e 116 117 2 1 0 0 0, m_e 117 118 4 0 0 0 0, m_e 118 121 17 95 1 5 0, m_e 121 122 0 0 0 1 1, m_e 122 123 9 0 1 0 0, m_e 123 126 40 160 108 82 0, m_e 126 127 51 0 0 0 0, m_e 127 129 0 0 1 (-2) (-2), m_e 129 130 51 0 0 0 0]
def t_X5_print : List m_E := [m_e 0 1 4 0 0 0 0, m_e 1 2 2 1 0 0 0, m_e 2 5 40 180 97 81 0, m_e 5 8 20 10 0 5 0, m_e 8 9 0 0 0 (-1) (-1), m_e 9 10 51 0 0 0 0, m_e 10 11 2 2 0 0 0, m_e 11 12 11 0 0 0 0, m_el 12 13 1 0 0 0, m_el 13 16 1 189 2 9, m_e 16 19 41 98 90 3 0, m_e 19 22 20 25 1 6 0, m_e 22 24 0 0 1 (-2) (-2), m_e 24 25 51 0 0 0 0, m_e 25 26 4 0 0 0 0, m_e 26 29 17 7 3 5 0, m_e 29 30 2 1 0 0 0, m_e 30 31 30 0 0 0 0, m_e 31 32 5 3 0 0 0, m_e 32 33 4 0 0 0 0, m_e 33 36 17 7 3 5 0, m_e 36 37 2 1 0 0 0, m_e 37 38 2 2 0 0 0, m_e 38 39 31 0 0 0 0, m_e 39 40 2 3 0 0 0, m_e 40 41 51 0 0 0 0]
def t_X5_begin : List m_E := [m_e 0 1 4 0 0 0 0, m_e 1 2 2 1 0 0 0, m_e 2 5 40 186 98 81 0, m_e 5 8 20 16 1 11 0, m_e 8 9 4 0 0 0 0, m_e 9 10 2 2 0 0 0, m_e 10 13 40 180 97 81 0, m_e 13 16 20 18 0 5 0, m_e 16 17 0 0 0 (-1) (-1), m_e 17 18 51 0 0 0 0, m_e 18 19 4 0 0 0 0, m_e 19 22 17 22 7 5 0, m_e 22 23 2 1 0 0 0, m_e 23 24 30 0 0 0 0, m_e 24 25 5 3 0 0 0, m_e 25 26 4 0 0 0 0, m_e 26 29 17 22 7 5 0, m_e 29 30 2 1 0 0 0, m_e 30 31 2 2 0 0 0, m_e 31 32 31 0 0 0 0, m_e 32 33 2 3 0 0 0, m_e 33 34 51 0 0 0 0]
def t_X5_coughed : List m_E := [m_e 0 1 4 0 0 0 0, m_e 1 4 17 25 8 5 0, m_e 4 5 2 1 0 0 0, m_e 5 6 16 0 0 0 0, m_e 6 7 30 0 0 0 0, m_e 7 8 0 0 0 1 1, m_e 8 9 2 2 0 0 0, m_e 9 10 9 0 6 0 0, m_e 10 11 9 0 5 0 0, m_e 11 12 31 0 0 0 0, m_e 12 13 4 0 0 0 0, m_e 13 16 17 25 8 5 0, m_e 16 17 2 1 0 0 0, m_e 17 18 30 0 0 0 0, m_e 18 19 2 2 0 0 0, m_e 19 20 9 0 7 0 0, m_e 20 21 0 0 0 1 1, m_e 21 22 9 0 3 0 0, m_e 22 23 51 0 0 0 0]
def t_X5_cough : List m_E := [m_e 0 1 2 1 0 0 0, m_e 1 4 41 191 99 1 0, m_e 4 7 20 9 0 5 0, m_e 7 8 0 0 0 (-1) (-1), m_e 8 9 51 0 0 0 0, m_e 9 10 2 2 0 0 0, m_e 10 13 41 194 100 1 0, m_e 13 16 20 19 1 6 0, m_e 16 18 0 0 1 (-2) (-2), m_e 18 19 51 0 0 0 0, m_e 19 20 4 0 0 0 0, m_e 20 23 17 102 2 5 0, m_e 23 26 20 31 1 8 0, m_e 26 28 0 0 1 (-3) (-3), m_e 28 31 19 37 0 9 0, m_e 31 32 4 0 0 0 0, m_e 32 33 2 1 0 0 0, m_e 33 34 2 2 0 0 0, m_e 34 37 40 197 121 82 0, m_e 37 38 51 0 0 0 0]
def t_X5_comes : List m_E := [m_e 0 1 2 1 0 0 0, m_e 1 4 41 191 99 1 0, m_e 4 7 20 9 0 5 0, m_e 7 8 0 0 0 (-1) (-1), m_e 8 9 51 0 0 0 0, m_e 9 10 2 2 0 0 0, m_e 10 13 41 194 100 1 0, m_e 13 16 20 19 1 6 0, m_e 16 18 0 0 1 (-2) (-2), m_e 18 19 51 0 0 0 0, m_e 19 20 4 0 0 0 0, m_e 20 23 17 102 2 5 0, m_e 23 26 20 29 1 6 0, m_e 26 28 0 0 1 (-3) (-3), m_e 28 29 51 0 0 0 0, m_e 29 30 4 0 0 0 0, m_e 30 33 40 183 113 80 0, m_e 33 34 4 0 0 0 0, m_e 34 37 17 52 20 5 0, m_e 37 39 0 0 1 6 6, m_e 39 40 2 1 0 0 0, m_e 40 41 9 0 2 0 0, m_e 41 42 2 2 0 0 0, m_e 42 43 9 0 0 0 0, m_e 43 44 30 0 0 0 0, m_e 44 45 51 0 0 0 0]
def t_X5_wetNow : List m_E := [m_e 0 1 4 0 0 0 0, m_e 1 4 40 183 113 80 0, m_e 4 5 4 0 0 0 0, m_e 5 8 17 55 21 5 0, m_e 8 9 2 1 0 0 0, m_e 9 10 30 0 0 0 0, m_e 10 11 51 0 0 0 0]
def t_X5_wet : List m_E := [m_e 0 1 2 1 0 0 0, m_e 1 4 41 191 99 1 0, m_e 4 7 20 11 0 7 0, m_e 7 8 0 0 0 (-1) (-1), m_e 8 11 19 28 0 20 0, m_e 11 12 4 0 0 0 0, m_e 12 15 17 102 2 5 0, m_e 15 18 20 23 1 8 0, m_e 18 20 0 0 1 (-3) (-3), m_e 20 23 19 28 0 8 0, m_e 23 24 4 0 0 0 0, m_e 24 25 2 1 0 0 0, m_e 25 28 40 200 124 81 0, m_e 28 29 51 0 0 0 0]
def t_X5_isAsTold : List m_E := [m_e 0 1 2 1 0 0 0, m_e 1 2 11 0 0 0 0, m_el 2 3 1 0 0 0, m_el 3 6 1 203 2 12, m_e 6 9 41 98 90 3 0, m_e 9 12 20 40 0 31 0, m_e 12 13 2 0 0 0 0, m_e 13 14 11 0 0 0 0, m_el 14 15 1 0 0 0, m_e 15 16 2 1 0 0 0, m_e 16 18 0 0 1 6 6, m_e 18 21 21 27 3 9 0, m_el 21 24 1 189 2 9, m_e 24 27 19 30 0 6 0, m_el 27 30 1 107 2 5, m_e 30 33 41 98 90 3 0, m_e 33 36 20 40 0 7 0, m_e 36 37 0 0 0 1 1, m_e 37 40 19 41 0 4 0, m_e 40 41 0 0 0 0 0, m_e 41 42 51 0 0 0 0]
def t_X5_doesPair : List m_E := [m_e 0 1 2 2 0 0 0, m_e 1 3 0 0 1 6 6, m_e 3 6 21 21 3 18 0, m_e 6 7 4 0 0 0 0, m_e 7 8 2 2 0 0 0, m_e 8 9 2 1 0 0 0, m_e 9 12 40 205 119 82 0, m_e 12 15 20 19 2 7 0, m_e 15 16 0 0 0 1 1, m_e 16 19 19 20 0 4 0, m_e 19 20 0 0 0 0 0, m_e 20 21 51 0 0 0 0, m_e 21 22 2 2 0 0 0, m_e 22 24 0 0 1 9 9, m_e 24 27 21 47 3 23 0, m_e 27 28 4 0 0 0 0, m_e 28 29 2 2 0 0 0, m_e 29 31 0 0 1 6 6, m_e 31 32 9 0 1 0 0, m_e 32 33 2 1 0 0 0, m_e 33 36 40 208 120 82 0, m_e 36 39 20 43 2 7 0, m_e 39 40 0 0 0 1 1, m_e 40 43 19 64 0 24 0, m_e 43 44 0 0 0 0 0, m_e 44 47 19 64 0 20 0, m_e 47 48 4 0 0 0 0, m_e 48 49 2 2 0 0 0, m_e 49 51 0 0 1 9 9, m_e 51 52 9 0 1 0 0, m_e 52 53 2 1 0 0 0, m_e 53 56 40 197 121 82 0, m_e 56 59 20 63 2 7 0, m_e 59 60 0 0 0 1 1, m_e 60 63 19 64 0 4 0, m_e 63 64 0 0 0 0 0, m_e 64 65 51 0 0 0 0]
def t_X5_dayOf : List m_E := [m_e 0 2 0 0 1 (-9) (-9), m_e 2 4 5 4 1 0 0, m_e 4 5 0 0 0 0 0, m_e 5 7 5 5 1 0 0, m_e 7 9 2 5 1 0 0, m_e 9 10 2 2 0 0 0, m_e 10 13 21 64 3 54 0, m_e 13 15 2 4 1 0 0, m_e 15 18 20 64 3 49 0, m_e 18 19 4 0 0 0 0, m_e 19 20 4 0 0 0 0, m_e 20 23 17 79 31 5 0, m_e 23 24 2 1 0 0 0, m_e 24 25 0 0 0 2 2, m_e 25 27 2 5 1 0 0, m_e 27 28 9 0 2 0 0, m_e 28 29 9 0 0 0 0, m_e 29 30 30 0 0 0 0, m_e 30 31 4 0 0 0 0, m_e 31 34 17 79 31 5 0, m_e 34 35 2 1 0 0 0, m_e 35 36 0 0 0 2 2, m_e 36 38 2 5 1 0 0, m_e 38 39 9 0 2 0 0, m_e 39 40 9 0 0 0 0, m_e 40 41 0 0 0 1 1, m_e 41 42 9 0 0 0 0, m_e 42 43 30 0 0 0 0, m_e 43 46 40 211 127 82 0, m_e 46 49 20 54 0 8 0, m_e 49 51 0 0 1 (-9) (-9), m_e 51 54 19 56 0 5 0, m_e 54 56 2 5 1 0 0, m_e 56 58 5 4 1 0 0, m_e 58 61 8 5 0 1 1, m_e 61 64 19 7 0 (-54) 0, m_e 64 65 2 3 0 0 0, m_e 65 66 0 0 0 1 1, m_e 66 69 21 72 1 6 0, m_e 69 71 2 4 1 0 0, m_e 71 72 51 0 0 0 0, m_e 72 74 2 4 1 0 0, m_e 74 77 20 83 2 9 0, m_e 77 79 0 0 1 (-100) (-100), m_e 79 81 2 4 1 0 0, m_e 81 82 9 0 1 0 0, m_e 82 83 51 0 0 0 0, m_e 83 84 4 0 0 0 0, m_e 84 87 40 183 113 80 0, m_e 87 88 2 3 0 0 0, m_e 88 90 0 0 1 10 10, m_e 90 93 21 105 2 15 0, m_e 93 94 4 0 0 0 0, m_e 94 97 17 55 21 5 0, m_e 97 98 2 3 0 0 0, m_e 98 100 0 0 1 10 10, m_e 100 101 9 0 1 0 0, m_e 101 102 30 0 0 0 0, m_e 102 105 19 144 0 42 0, m_e 105 106 2 3 0 0 0, m_e 106 109 20 116 1 10 0, m_e 109 110 4 0 0 0 0, m_e 110 113 40 214 114 80 0, m_e 113 116 19 144 0 31 0, m_e 116 117 2 3 0 0 0, m_e 117 118 0 0 0 2 2, m_e 118 121 21 128 1 10 0, m_e 121 122 4 0 0 0 0, m_e 122 125 40 218 115 80 0, m_e 125 128 19 144 0 19 0, m_e 128 129 2 3 0 0 0, m_e 129 130 0 0 0 3 3, m_e 130 133 21 140 1 10 0, m_e 133 134 4 0 0 0 0, m_e 134 137 40 221 116 80 0, m_e 137 140 19 144 0 7 0, m_e 140 141 4 0 0 0 0, m_e 141 144 17 166 22 5 0, m_e 144 145 51 0 0 0 0]
def t_X5_keeps : List m_E := [m_e 0 1 0 0 0 0 0, m_e 1 2 5 1 0 0 0, m_e 2 3 2 1 0 0 0, m_e 3 4 4 0 0 0 0, m_e 4 7 17 95 1 5 0, m_e 7 10 21 28 3 21 0, m_e 10 11 4 0 0 0 0, m_e 11 14 17 58 23 5 0, m_e 14 15 2 1 0 0 0, m_e 15 16 4 0 0 0 0, m_e 16 19 17 7 3 5 0, m_e 19 20 2 1 0 0 0, m_e 20 21 30 0 0 0 0, m_e 21 22 31 0 0 0 0, m_e 22 25 8 1 0 1 1, m_e 25 28 19 2 0 (-23) 0, m_e 28 29 0 0 0 0 0, m_e 29 30 5 1 0 0 0, m_e 30 31 2 1 0 0 0, m_e 31 32 4 0 0 0 0, m_e 32 35 17 102 2 5 0, m_e 35 38 21 56 3 21 0, m_e 38 39 4 0 0 0 0, m_e 39 42 17 61 24 5 0, m_e 42 43 2 1 0 0 0, m_e 43 44 4 0 0 0 0, m_e 44 47 17 22 7 5 0, m_e 47 48 2 1 0 0 0, m_e 48 49 30 0 0 0 0, m_e 49 50 31 0 0 0 0, m_e 50 53 8 1 0 1 1, m_e 53 56 19 30 0 (-23) 0, m_e 56 57 0 0 0 0 0, m_e 57 58 5 1 0 0 0, m_e 58 59 2 1 0 0 0, m_e 59 60 0 0 0 4 4, m_e 60 63 21 81 3 21 0, m_e 63 64 4 0 0 0 0, m_e 64 67 17 64 25 5 0, m_e 67 68 2 1 0 0 0, m_e 68 69 4 0 0 0 0, m_e 69 72 17 25 8 5 0, m_e 72 73 2 1 0 0 0, m_e 73 74 30 0 0 0 0, m_e 74 75 31 0 0 0 0, m_e 75 78 8 1 0 1 1, m_e 78 81 19 58 0 (-20) 0, m_e 81 82 50 0 0 0 0]
def t_X5_bringsBack : List m_E := [m_e 0 1 0 0 0 0 0, m_e 1 2 5 1 0 0 0, m_e 2 3 2 1 0 0 0, m_e 3 4 4 0 0 0 0, m_e 4 7 17 95 1 5 0, m_e 7 10 21 28 3 21 0, m_e 10 11 4 0 0 0 0, m_e 11 14 17 7 3 5 0, m_e 14 15 2 1 0 0 0, m_e 15 16 4 0 0 0 0, m_e 16 19 17 58 23 5 0, m_e 19 20 2 1 0 0 0, m_e 20 21 30 0 0 0 0, m_e 21 22 31 0 0 0 0, m_e 22 25 8 1 0 1 1, m_e 25 28 19 2 0 (-23) 0, m_e 28 29 0 0 0 0 0, m_e 29 30 5 1 0 0 0, m_e 30 31 2 1 0 0 0, m_e 31 32 4 0 0 0 0, m_e 32 35 17 102 2 5 0, m_e 35 38 21 56 3 21 0, m_e 38 39 4 0 0 0 0, m_e 39 42 17 22 7 5 0, m_e 42 43 2 1 0 0 0, m_e 43 44 4 0 0 0 0, m_e 44 47 17 61 24 5 0, m_e 47 48 2 1 0 0 0, m_e 48 49 30 0 0 0 0, m_e 49 50 31 0 0 0 0, m_e 50 53 8 1 0 1 1, m_e 53 56 19 30 0 (-23) 0, m_e 56 57 0 0 0 0 0, m_e 57 58 5 1 0 0 0, m_e 58 59 2 1 0 0 0, m_e 59 60 0 0 0 4 4, m_e 60 63 21 81 3 21 0, m_e 63 64 4 0 0 0 0, m_e 64 67 17 25 8 5 0, m_e 67 68 2 1 0 0 0, m_e 68 69 4 0 0 0 0, m_e 69 72 17 64 25 5 0, m_e 72 73 2 1 0 0 0, m_e 73 74 30 0 0 0 0, m_e 74 75 31 0 0 0 0, m_e 75 78 8 1 0 1 1, m_e 78 81 19 58 0 (-20) 0, m_e 81 82 50 0 0 0 0]
def t_X5_day : List m_E := [m_e 0 1 2 1 0 0 0, m_e 1 4 41 141 151 1 0, m_e 4 7 20 13 0 9 0, m_e 7 8 4 0 0 0 0, m_e 8 9 0 0 0 (-1) (-1), m_e 9 12 40 145 94 81 0, m_e 12 13 51 0 0 0 0, m_e 13 14 2 2 0 0 0, m_e 14 15 11 0 0 0 0, m_el 15 16 1 0 0 0, m_el 16 19 1 148 2 2, m_e 19 22 41 98 90 3 0, m_e 22 25 20 66 0 44 0, m_e 25 27 2 4 1 0 0, m_e 27 28 11 0 0 0 0, m_el 28 29 1 0 0 0, m_el 29 32 1 224 2 20, m_e 32 35 41 98 90 3 0, m_e 35 38 20 66 0 31 0, m_e 38 40 2 5 1 0 0, m_e 40 41 11 0 0 0 0, m_el 41 42 1 0 0 0, m_el 42 45 1 226 2 4, m_e 45 48 41 98 90 3 0, m_e 48 51 20 73 1 25 0, m_e 51 53 2 5 1 0 0, m_e 53 54 11 0 0 0 0, m_el 54 57 1 228 2 10, m_el 57 60 1 230 2 13, m_e 60 63 41 98 90 3 0, m_e 63 66 20 73 1 10 0, m_e 66 67 4 0 0 0 0, m_e 67 69 0 0 1 (-2) (-2), m_e 69 72 40 145 94 81 0, m_e 72 73 51 0 0 0 0, m_e 73 74 4 0 0 0 0, m_e 74 77 17 102 2 5 0, m_e 77 80 20 87 1 10 0, m_e 80 81 4 0 0 0 0, m_e 81 83 0 0 1 (-3) (-3), m_e 83 86 40 145 94 81 0, m_e 86 87 51 0 0 0 0, m_e 87 88 4 0 0 0 0, m_e 88 89 2 1 0 0 0, m_e 89 90 2 2 0 0 0, m_e 90 91 2 3 0 0 0, m_el 91 94 1 148 2 2, m_e 94 96 2 4 1 0 0, m_e 96 97 11 0 0 0 0, m_e 97 98 10 0 2 0 0, m_e 98 101 40 150 106 84 0, m_e 101 103 5 6 1 0 0, m_e 103 105 2 6 1 0 0, m_e 105 108 20 111 3 6 0, m_e 108 110 2 6 1 0 0, m_e 110 111 51 0 0 0 0, m_e 111 113 0 0 1 60 60, m_e 113 114 2 1 0 0 0, m_e 114 115 9 0 2 0 0, m_e 115 116 2 3 0 0 0, m_e 116 117 9 0 0 0 0, m_e 117 119 5 7 1 0 0, m_e 119 120 0 0 0 0 0, m_e 120 122 5 8 1 0 0, m_e 122 124 2 8 1 0 0, m_e 124 126 2 4 1 0 0, m_e 126 129 21 174 3 48 0, m_e 129 130 4 0 0 0 0, m_e 130 133 17 79 31 5 0, m_e 133 135 2 7 1 0 0, m_e 135 136 0 0 0 2 2, m_e 136 138 2 8 1 0 0, m_e 138 139 9 0 2 0 0, m_e 139 140 9 0 0 0 0, m_e 140 141 30 0 0 0 0, m_e 141 142 4 0 0 0 0, m_e 142 145 17 79 31 5 0, m_e 145 147 2 7 1 0 0, m_e 147 148 0 0 0 2 2, m_e 148 150 2 8 1 0 0, m_e 150 151 9 0 2 0 0, m_e 151 152 9 0 0 0 0, m_e 152 153 0 0 0 1 1, m_e 153 154 9 0 0 0 0, m_e 154 155 30 0 0 0 0, m_e 155 158 41 232 126 2 0, m_e 158 161 20 168 1 10 0, m_e 161 162 4 0 0 0 0, m_e 162 164 0 0 1 (-2) (-2), m_e 164 167 40 145 94 81 0, m_e 167 168 51 0 0 0 0, m_e 168 171 8 8 0 1 1, m_e 171 174 19 122 0 (-49) 0, m_e 174 175 4 0 0 0 0, m_e 175 178 40 235 129 80 0, m_e 178 179 4 0 0 0 0, m_e 179 181 2 7 1 0 0, m_e 181 183 2 4 1 0 0, m_e 183 185 2 5 1 0 0, m_e 185 188 40 238 128 83 0, m_e 188 190 5 8 1 0 0, m_e 190 191 4 0 0 0 0, m_e 191 194 40 242 130 80 0, m_e 194 195 4 0 0 0 0, m_e 195 197 2 8 1 0 0, m_e 197 200 40 145 94 81 0, m_e 200 201 51 0 0 0 0]
def t_X5_beginnings : List m_E := [m_e 0 1 0 0 0 1 1, m_e 1 2 5 1 0 0 0, m_e 2 3 0 0 0 0 0, m_e 3 4 5 2 0 0 0, m_e 4 5 2 2 0 0 0, m_e 5 6 4 0 0 0 0, m_e 6 9 17 102 2 5 0, m_e 9 12 21 25 3 16 0, m_e 12 13 2 1 0 0 0, m_e 13 14 4 0 0 0 0, m_e 14 17 17 95 1 5 0, m_e 17 18 9 0 2 0 0, m_e 18 19 5 1 0 0 0, m_e 19 22 8 2 0 1 1, m_e 22 25 19 4 0 (-18) 0, m_e 25 26 2 1 0 0 0, m_e 26 27 51 0 0 0 0]
def t_X5_begins : List m_E := [m_e 0 1 2 1 0 0 0, m_e 1 2 5 2 0 0 0, m_e 2 3 4 0 0 0 0, m_e 3 6 17 102 2 5 0, m_e 6 7 0 0 0 1 1, m_e 7 8 9 0 1 0 0, m_e 8 9 5 3 0 0 0, m_e 9 10 2 3 0 0 0, m_e 10 13 20 38 2 28 0, m_e 13 14 4 0 0 0 0, m_e 14 17 17 22 7 5 0, m_e 17 18 2 3 0 0 0, m_e 18 19 2 2 0 0 0, m_e 19 20 4 0 0 0 0, m_e 20 23 17 95 1 5 0, m_e 23 24 35 0 0 0 0, m_e 24 25 31 0 0 0 0, m_e 25 26 2 2 0 0 0, m_e 26 27 4 0 0 0 0, m_e 27 30 17 95 1 5 0, m_e 30 31 34 0 0 0 0, m_e 31 32 5 2 0 0 0, m_e 32 35 8 3 0 (-1) (-1), m_e 35 38 19 9 0 (-26) 0, m_e 38 39 50 0 0 0 0]
def t_X5_startIn : List m_E := [m_e 0 1 2 1 0 0 0, m_e 1 2 5 3 0 0 0, m_e 2 3 4 0 0 0 0, m_e 3 6 17 102 2 5 0, m_e 6 7 0 0 0 1 1, m_e 7 8 9 0 1 0 0, m_e 8 10 5 4 1 0 0, m_e 10 12 2 4 1 0 0, m_e 12 13 2 2 0 0 0, m_e 13 16 21 29 5 16 0, m_e 16 17 2 3 0 0 0, m_e 17 18 4 0 0 0 0, m_e 18 21 17 95 1 5 0, m_e 21 22 34 0 0 0 0, m_e 22 23 5 3 0 0 0, m_e 23 26 8 4 0 (-1) (-1), m_e 26 29 19 10 0 (-16) 0, m_e 29 30 2 3 0 0 0, m_e 30 31 4 0 0 0 0, m_e 31 34 17 95 1 5 0, m_e 34 35 35 0 0 0 0, m_e 35 36 51 0 0 0 0]
def t_X5_whole : List m_E := [m_e 0 1 2 1 0 0 0, m_e 1 2 11 0 0 0 0, m_el 2 5 1 245 2 (-1), m_el 5 8 1 148 2 2, m_e 8 11 41 98 90 3 0, m_e 11 14 20 17 1 6 0, m_e 14 16 0 0 1 (-2) (-2), m_e 16 17 51 0 0 0 0, m_e 17 18 4 0 0 0 0, m_e 18 21 17 102 2 5 0, m_e 21 24 20 27 1 6 0, m_e 24 26 0 0 1 (-3) (-3), m_e 26 27 51 0 0 0 0, m_e 27 28 4 0 0 0 0, m_e 28 31 40 235 129 80 0, m_e 31 32 0 0 0 0 0, m_e 32 33 5 2 0 0 0, m_e 33 35 0 0 1 (-9) (-9), m_e 35 36 5 3 0 0 0, m_e 36 37 4 0 0 0 0, m_e 37 40 40 247 132 80 0, m_e 40 41 0 0 0 1 1, m_e 41 42 9 0 1 0 0, m_e 42 44 5 4 1 0 0, m_e 44 46 2 4 1 0 0, m_e 46 49 20 111 2 65 0, m_e 49 50 4 0 0 0 0, m_e 50 52 2 4 1 0 0, m_e 52 55 40 250 133 81 0, m_e 55 56 4 0 0 0 0, m_e 56 59 40 183 113 80 0, m_e 59 60 4 0 0 0 0, m_e 60 63 40 218 115 80 0, m_e 63 66 20 77 1 14 0, m_e 66 67 4 0 0 0 0, m_e 67 70 40 221 116 80 0, m_e 70 73 20 77 1 7 0, m_e 73 74 0 0 0 1 1, m_e 74 77 19 78 0 4 0, m_e 77 78 0 0 0 0 0, m_e 78 80 5 5 1 0 0, m_e 80 81 2 2 0 0 0, m_e 81 83 2 5 1 0 0, m_e 83 86 20 90 0 7 0, m_e 86 87 0 0 0 1 1, m_e 87 90 19 91 0 4 0, m_e 90 91 0 0 0 0 0, m_e 91 92 9 0 0 0 0, m_e 92 93 5 2 0 0 0, m_e 93 95 2 5 1 0 0, m_e 95 98 20 103 0 8 0, m_e 98 100 2 4 1 0 0, m_e 100 103 19 104 0 4 0, m_e 103 104 2 3 0 0 0, m_e 104 105 5 3 0 0 0, m_e 105 108 8 4 0 (-1) (-1), m_e 108 111 19 44 0 (-64) 0, m_e 111 112 4 0 0 0 0, m_e 112 115 40 242 130 80 0, m_e 115 116 2 1 0 0 0, m_e 116 119 20 123 3 7 0, m_e 119 120 2 2 0 0 0, m_e 120 123 19 146 0 26 0, m_e 123 124 2 3 0 0 0, m_e 124 127 20 135 2 11 0, m_e 127 128 4 0 0 0 0, m_e 128 129 2 1 0 0 0, m_e 129 132 40 186 98 81 0, m_e 132 135 20 140 0 8 0, m_e 135 137 0 0 1 (-9) (-9), m_e 137 140 19 146 0 9 0, m_e 140 141 4 0 0 0 0, m_e 141 142 2 3 0 0 0, m_e 142 143 2 1 0 0 0, m_e 143 146 40 253 134 82 0, m_e 146 147 51 0 0 0 0]
def t_X5_most : List m_E := [m_e 0 1 2 1 0 0 0, m_e 1 2 11 0 0 0 0, m_el 2 5 1 245 2 (-1), m_el 5 8 1 148 2 2, m_e 8 11 41 98 90 3 0, m_e 11 14 20 17 1 6 0, m_e 14 16 0 0 1 (-2) (-2), m_e 16 17 51 0 0 0 0, m_e 17 18 4 0 0 0 0, m_e 18 21 17 102 2 5 0, m_e 21 24 20 27 1 6 0, m_e 24 26 0 0 1 (-3) (-3), m_e 26 27 51 0 0 0 0, m_e 27 28 4 0 0 0 0, m_e 28 31 40 235 129 80 0, m_e 31 32 0 0 0 (-1) (-1), m_e 32 33 5 2 0 0 0, m_e 33 35 0 0 1 (-9) (-9), m_e 35 36 5 3 0 0 0, m_e 36 37 0 0 0 0 0, m_e 37 39 5 4 1 0 0, m_e 39 41 2 4 1 0 0, m_e 41 42 4 0 0 0 0, m_e 42 45 40 247 132 80 0, m_e 45 48 21 96 3 51 0, m_e 48 49 4 0 0 0 0, m_e 49 51 2 4 1 0 0, m_e 51 54 40 250 133 81 0, m_e 54 55 4 0 0 0 0, m_e 55 58 40 183 113 80 0, m_e 58 59 4 0 0 0 0, m_e 59 62 40 214 114 80 0, m_e 62 63 2 2 0 0 0, m_e 63 66 21 71 5 8 0, m_e 66 68 2 4 1 0 0, m_e 68 71 19 72 0 4 0, m_e 71 72 2 3 0 0 0, m_e 72 73 5 3 0 0 0, m_e 73 74 4 0 0 0 0, m_e 74 77 40 214 114 80 0, m_e 77 78 2 2 0 0 0, m_e 78 81 21 88 5 10 0, m_e 81 82 4 0 0 0 0, m_e 82 85 40 214 114 80 0, m_e 85 88 19 89 0 4 0, m_e 88 89 2 2 0 0 0, m_e 89 90 5 2 0 0 0, m_e 90 93 8 4 0 1 1, m_e 93 96 19 39 0 (-54) 0, m_e 96 97 4 0 0 0 0, m_e 97 100 40 242 130 80 0, m_e 100 101 2 1 0 0 0, m_e 101 104 20 108 3 7 0, m_e 104 105 2 2 0 0 0, m_e 105 108 19 127 0 22 0, m_e 108 109 4 0 0 0 0, m_e 109 110 2 1 0 0 0, m_e 110 113 40 186 98 81 0, m_e 113 116 20 121 0 8 0, m_e 116 118 0 0 1 (-9) (-9), m_e 118 121 19 127 0 9 0, m_e 121 122 4 0 0 0 0, m_e 122 123 2 3 0 0 0, m_e 123 124 2 1 0 0 0, m_e 124 127 40 253 134 82 0, m_e 127 128 51 0 0 0 0]
def t_X5_strayed : List m_E := [m_e 0 1 4 0 0 0 0, m_e 1 2 2 1 0 0 0, m_e 2 5 40 186 98 81 0, m_e 5 8 20 10 0 5 0, m_e 8 9 0 0 0 (-1) (-1), m_e 9 10 51 0 0 0 0, m_e 10 11 2 2 0 0 0, m_e 11 12 11 0 0 0 0, m_el 12 13 1 0 0 0, m_el 13 14 1 0 1 1, m_e 14 17 41 98 90 3 0, m_e 17 20 20 23 1 6 0, m_e 20 22 0 0 1 (-2) (-2), m_e 22 23 51 0 0 0 0, m_e 23 24 4 0 0 0 0, m_e 24 27 17 22 7 5 0, m_e 27 28 2 1 0 0 0, m_e 28 29 30 0 0 0 0, m_e 29 30 5 3 0 0 0, m_e 30 32 0 0 1 63 63, m_e 32 34 5 4 1 0 0, m_e 34 36 0 0 1 15 15, m_e 36 38 5 5 1 0 0, m_e 38 39 0 0 0 0 0, m_e 39 41 5 6 1 0 0, m_e 41 43 2 6 1 0 0, m_e 43 44 4 0 0 0 0, m_e 44 47 17 95 1 5 0, m_e 47 50 21 137 3 90 0, m_e 50 51 4 0 0 0 0, m_e 51 54 17 22 7 5 0, m_e 54 55 2 1 0 0 0, m_e 55 57 2 6 1 0 0, m_e 57 58 31 0 0 0 0, m_e 58 59 4 0 0 0 0, m_e 59 62 40 183 113 80 0, m_e 62 64 2 4 1 0 0, m_e 64 65 0 0 0 1 1, m_e 65 66 4 0 0 0 0, m_e 66 69 17 95 1 5 0, m_e 69 70 9 0 6 0 0, m_e 70 71 0 0 0 1 1, m_e 71 72 9 0 1 0 0, m_e 72 73 4 0 0 0 0, m_e 73 76 40 218 115 80 0, m_e 76 77 0 0 0 (-1) (-1), m_e 77 78 9 0 5 0 0, m_e 78 79 9 0 3 0 0, m_e 79 80 4 0 0 0 0, m_e 80 83 40 221 116 80 0, m_e 83 84 0 0 0 (-1) (-1), m_e 84 85 9 0 5 0 0, m_e 85 86 9 0 3 0 0, m_e 86 87 9 0 3 0 0, m_e 87 89 5 4 1 0 0, m_e 89 90 0 0 0 0 0, m_e 90 92 5 7 1 0 0, m_e 92 94 2 7 1 0 0, m_e 94 95 0 0 0 4 4, m_e 95 98 21 131 3 36 0, m_e 98 100 2 5 1 0 0, m_e 100 101 4 0 0 0 0, m_e 101 104 17 55 21 5 0, m_e 104 106 2 7 1 0 0, m_e 106 107 30 0 0 0 0, m_e 107 110 20 115 5 8 0, m_e 110 112 0 0 1 15 15, m_e 112 115 19 122 0 10 0, m_e 115 117 0 0 1 15 15, m_e 117 118 0 0 0 1 1, m_e 118 120 2 7 1 0 0, m_e 120 121 9 0 6 0 0, m_e 121 122 9 0 1 0 0, m_e 122 123 9 0 3 0 0, m_e 123 125 5 5 1 0 0, m_e 125 128 8 7 0 1 1, m_e 128 131 19 92 0 (-36) 0, m_e 131 134 8 6 0 1 1, m_e 134 137 19 41 0 (-93) 0, m_e 137 138 4 0 0 0 0, m_e 138 141 17 22 7 5 0, m_e 141 142 2 1 0 0 0, m_e 142 143 2 3 0 0 0, m_e 143 144 31 0 0 0 0, m_e 144 145 2 2 0 0 0, m_e 145 148 20 153 1 8 0, m_e 148 150 2 4 1 0 0, m_e 150 153 19 155 0 5 0, m_e 153 155 2 5 1 0 0, m_e 155 156 51 0 0 0 0]
def t_X5_areSaved : List m_E := [m_e 0 1 4 0 0 0 0, m_e 1 4 40 183 113 80 0, m_e 4 5 0 0 0 1 1, m_e 5 6 5 3 0 0 0, m_e 6 7 0 0 0 0 0, m_e 7 9 5 4 1 0 0, m_e 9 11 2 4 1 0 0, m_e 11 12 0 0 0 4 4, m_e 12 15 21 51 3 39 0, m_e 15 16 2 3 0 0 0, m_e 16 19 20 43 0 27 0, m_e 19 20 2 1 0 0 0, m_e 20 22 2 4 1 0 0, m_e 22 23 9 0 7 0 0, m_e 23 24 0 0 0 1 1, m_e 24 25 9 0 3 0 0, m_e 25 28 20 39 0 14 0, m_e 28 29 4 0 0 0 0, m_e 29 32 17 55 21 5 0, m_e 32 34 2 4 1 0 0, m_e 34 35 30 0 0 0 0, m_e 35 36 2 2 0 0 0, m_e 36 39 21 43 4 7 0, m_e 39 40 0 0 0 1 1, m_e 40 43 19 44 0 4 0, m_e 43 44 0 0 0 0 0, m_e 44 45 5 3 0 0 0, m_e 45 48 8 4 0 1 1, m_e 48 51 19 9 0 (-39) 0, m_e 51 52 2 3 0 0 0, m_e 52 53 51 0 0 0 0]
def t_X5_saved : List m_E := [m_e 0 1 2 1 0 0 0, m_e 1 2 11 0 0 0 0, m_el 2 3 1 0 0 0, m_el 3 6 1 256 2 15, m_e 6 9 41 98 90 3 0, m_e 9 12 20 24 0 15 0, m_e 12 13 2 2 0 0 0, m_e 13 14 11 0 0 0 0, m_el 14 15 1 0 0 0, m_el 15 18 1 258 2 99, m_e 18 21 41 98 90 3 0, m_e 21 24 20 27 1 6 0, m_e 24 26 0 0 1 (-2) (-2), m_e 26 27 51 0 0 0 0, m_e 27 28 4 0 0 0 0, m_e 28 31 17 102 2 5 0, m_e 31 34 20 37 1 6 0, m_e 34 36 0 0 1 (-3) (-3), m_e 36 37 51 0 0 0 0, m_e 37 38 4 0 0 0 0, m_e 38 41 40 235 129 80 0, m_e 41 43 0 0 1 (-9) (-9), m_e 43 44 5 3 0 0 0, m_e 44 45 0 0 0 0 0, m_e 45 47 5 4 1 0 0, m_e 47 49 2 4 1 0 0, m_e 49 51 0 0 1 64 64, m_e 51 54 21 142 3 91 0, m_e 54 55 0 0 0 0 0, m_e 55 57 5 5 1 0 0, m_e 57 59 2 5 1 0 0, m_e 59 60 0 0 0 4 4, m_e 60 63 21 92 3 32 0, m_e 63 64 4 0 0 0 0, m_e 64 67 17 25 8 5 0, m_e 67 69 2 5 1 0 0, m_e 69 70 2 1 0 0 0, m_e 70 72 2 5 1 0 0, m_e 72 73 9 0 7 0 0, m_e 73 74 0 0 0 1 1, m_e 74 75 9 0 3 0 0, m_e 75 76 0 0 0 1 1, m_e 76 79 21 84 1 8 0, m_e 79 81 2 4 1 0 0, m_e 81 84 19 85 0 4 0, m_e 84 85 0 0 0 0 0, m_e 85 86 31 0 0 0 0, m_e 86 89 8 5 0 1 1, m_e 89 92 19 57 0 (-32) 0, m_e 92 93 2 3 0 0 0, m_e 93 96 20 105 2 12 0, m_e 96 98 2 4 1 0 0, m_e 98 101 41 260 92 1 0, m_e 101 102 2 3 0 0 0, m_e 102 105 21 109 3 7 0, m_e 105 106 0 0 0 1 1, m_e 106 109 19 110 0 4 0, m_e 109 110 0 0 0 0 0, m_e 110 112 5 5 1 0 0, m_e 112 114 2 5 1 0 0, m_e 114 117 20 134 0 20 0, m_e 117 118 4 0 0 0 0, m_e 118 119 2 1 0 0 0, m_e 119 120 2 2 0 0 0, m_e 120 123 40 263 138 82 0, m_e 123 126 20 134 0 11 0, m_e 126 128 2 4 1 0 0, m_e 128 131 41 260 92 1 0, m_e 131 134 19 135 0 4 0, m_e 134 135 2 3 0 0 0, m_e 135 136 5 3 0 0 0, m_e 136 139 8 4 0 1 1, m_e 139 142 19 47 0 (-92) 0, m_e 142 143 4 0 0 0 0, m_e 143 146 40 242 130 80 0, m_e 146 147 2 3 0 0 0, m_e 147 148 51 0 0 0 0]
def t_X5_apart : List m_E := [m_e 0 1 2 0 0 0 0, m_e 1 2 2 1 0 0 0, m_e 2 5 21 11 5 9 0, m_e 5 6 2 0 0 0 0, m_e 6 7 2 1 0 0 0, m_e 7 8 9 0 1 0 0, m_e 8 11 19 14 0 6 0, m_e 11 12 2 1 0 0 0, m_e 12 13 2 0 0 0 0, m_e 13 14 9 0 1 0 0, m_e 14 15 51 0 0 0 0]
def t_X5_misprint : List m_E := [m_e 0 1 2 1 0 0 0, m_e 1 4 41 191 99 1 0, m_e 4 7 20 9 0 5 0, m_e 7 8 0 0 0 (-1) (-1), m_e 8 9 51 0 0 0 0, m_e 9 10 2 2 0 0 0, m_e 10 11 11 0 0 0 0, m_el 11 12 1 0 0 0, m_el 12 15 1 258 2 99, m_e 15 18 41 98 90 3 0, m_e 18 21 20 31 0 13 0, m_e 21 22 2 3 0 0 0, m_e 22 23 11 0 0 0 0, m_el 23 24 1 0 0 0, m_el 24 25 1 0 1 1, m_e 25 28 41 98 90 3 0, m_e 28 31 20 34 1 6 0, m_e 31 33 0 0 1 (-2) (-2), m_e 33 34 51 0 0 0 0, m_e 34 35 4 0 0 0 0, m_e 35 38 17 102 2 5 0, m_e 38 41 20 44 1 6 0, m_e 41 43 0 0 1 (-3) (-3), m_e 43 44 51 0 0 0 0, m_e 44 45 4 0 0 0 0, m_e 45 46 2 1 0 0 0, m_e 46 49 40 200 124 81 0, m_e 49 50 2 2 0 0 0, m_e 50 53 21 64 2 14 0, m_e 53 54 2 3 0 0 0, m_e 54 57 20 61 1 7 0, m_e 57 58 0 0 0 0 0, m_e 58 61 19 63 0 5 0, m_e 61 63 0 0 1 (-9) (-9), m_e 63 64 51 0 0 0 0, m_e 64 66 0 0 1 (-9) (-9), m_e 66 68 5 4 1 0 0, m_e 68 70 0 0 1 (-9) (-9), m_e 70 72 5 5 1 0 0, m_e 72 73 0 0 0 0 0, m_e 73 75 5 6 1 0 0, m_e 75 77 2 6 1 0 0, m_e 77 78 4 0 0 0 0, m_e 78 81 17 95 1 5 0, m_e 81 84 21 199 3 118 0, m_e 84 85 4 0 0 0 0, m_e 85 88 17 7 3 5 0, m_e 88 90 2 6 1 0 0, m_e 90 91 30 0 0 0 0, m_e 91 93 5 7 1 0 0, m_e 93 94 0 0 0 0 0, m_e 94 96 5 8 1 0 0, m_e 96 98 2 8 1 0 0, m_e 98 100 0 0 1 9 9, m_e 100 103 21 184 4 84 0, m_e 103 104 4 0 0 0 0, m_e 104 107 17 7 3 5 0, m_e 107 109 2 6 1 0 0, m_e 109 111 2 8 1 0 0, m_e 111 112 31 0 0 0 0, m_e 112 113 4 0 0 0 0, m_e 113 114 2 1 0 0 0, m_e 114 117 40 200 124 81 0, m_e 117 118 2 2 0 0 0, m_e 118 121 21 142 2 24 0, m_e 121 123 2 4 1 0 0, m_e 123 126 20 138 2 15 0, m_e 126 128 2 8 1 0 0, m_e 128 130 2 7 1 0 0, m_e 130 133 41 266 140 2 0, m_e 133 135 2 4 1 0 0, m_e 135 138 21 142 3 7 0, m_e 138 139 0 0 0 1 1, m_e 139 142 19 143 0 4 0, m_e 142 143 0 0 0 0 0, m_e 143 145 5 9 1 0 0, m_e 145 147 2 9 1 0 0, m_e 147 150 20 155 0 8 0, m_e 150 152 2 6 1 0 0, m_e 152 155 19 157 0 5 0, m_e 155 157 2 5 1 0 0, m_e 157 159 5 5 1 0 0, m_e 159 161 2 9 1 0 0, m_e 161 164 20 174 0 13 0, m_e 164 166 2 8 1 0 0, m_e 166 168 2 7 1 0 0, m_e 168 171 41 266 140 2 0, m_e 171 174 19 176 0 5 0, m_e 174 176 2 4 1 0 0, m_e 176 178 5 4 1 0 0, m_e 178 181 8 8 0 1 1, m_e 181 184 19 96 0 (-85) 0, m_e 184 185 4 0 0 0 0, m_e 185 188 17 7 3 5 0, m_e 188 190 2 6 1 0 0, m_e 190 192 2 7 1 0 0, m_e 192 193 31 0 0 0 0, m_e 193 196 8 6 0 1 1, m_e 196 199 19 75 0 (-121) 0, m_e 199 200 2 3 0 0 0, m_e 200 203 20 208 1 8 0, m_e 203 205 2 4 1 0 0, m_e 205 208 19 210 0 5 0, m_e 208 210 2 5 1 0 0, m_e 210 211 51 0 0 0 0]
def t_X5_pain : List m_E := [m_e 0 1 4 0 0 0 0, m_e 1 4 17 25 8 5 0, m_e 4 5 2 2 0 0 0, m_e 5 6 30 0 0 0 0, m_e 6 8 5 6 1 0 0, m_e 8 9 4 0 0 0 0, m_e 9 12 17 25 8 5 0, m_e 12 13 2 3 0 0 0, m_e 13 14 30 0 0 0 0, m_e 14 16 5 7 1 0 0, m_e 16 17 4 0 0 0 0, m_e 17 20 17 25 8 5 0, m_e 20 21 2 2 0 0 0, m_e 21 23 2 6 1 0 0, m_e 23 25 0 0 1 63 63, m_e 25 26 0 0 0 1 1, m_e 26 28 2 4 1 0 0, m_e 28 29 9 0 6 0 0, m_e 29 30 9 0 1 0 0, m_e 30 31 9 0 3 0 0, m_e 31 33 2 5 1 0 0, m_e 33 34 0 0 0 1 1, m_e 34 35 9 0 3 0 0, m_e 35 37 2 4 1 0 0, m_e 37 38 9 0 6 0 0, m_e 38 39 9 0 4 0 0, m_e 39 40 31 0 0 0 0, m_e 40 41 4 0 0 0 0, m_e 41 44 17 25 8 5 0, m_e 44 45 2 3 0 0 0, m_e 45 47 2 7 1 0 0, m_e 47 49 0 0 1 63 63, m_e 49 50 0 0 0 1 1, m_e 50 52 2 4 1 0 0, m_e 52 53 9 0 6 0 0, m_e 53 54 9 0 1 0 0, m_e 54 55 9 0 3 0 0, m_e 55 57 2 5 1 0 0, m_e 57 58 0 0 0 1 1, m_e 58 59 9 0 7 0 0, m_e 59 61 2 4 1 0 0, m_e 61 62 9 0 6 0 0, m_e 62 63 9 0 4 0 0, m_e 63 64 31 0 0 0 0, m_e 64 65 4 0 0 0 0, m_e 65 66 2 1 0 0 0, m_e 66 69 40 200 124 81 0, m_e 69 70 4 0 0 0 0, m_e 70 71 2 1 0 0 0, m_e 71 73 2 4 1 0 0, m_e 73 76 40 163 111 82 0, m_e 76 79 20 83 0 7 0, m_e 79 80 0 0 0 2 2, m_e 80 83 19 84 0 4 0, m_e 83 84 0 0 0 0 0, m_e 84 85 9 0 0 0 0, m_e 85 87 5 8 1 0 0, m_e 87 88 4 0 0 0 0, m_e 88 91 17 25 8 5 0, m_e 91 92 2 2 0 0 0, m_e 92 94 2 6 1 0 0, m_e 94 95 31 0 0 0 0, m_e 95 96 4 0 0 0 0, m_e 96 99 17 25 8 5 0, m_e 99 100 2 3 0 0 0, m_e 100 102 2 7 1 0 0, m_e 102 103 31 0 0 0 0, m_e 103 105 2 8 1 0 0, m_e 105 106 51 0 0 0 0]
def t_X5_rests : List m_E := [m_e 0 1 2 1 0 0 0, m_e 1 4 41 191 99 1 0, m_e 4 7 20 19 1 15 0, m_e 7 8 2 2 0 0 0, m_e 8 11 41 191 99 1 0, m_e 11 14 20 19 1 8 0, m_e 14 15 2 1 0 0 0, m_e 15 16 2 2 0 0 0, m_e 16 19 21 21 1 5 0, m_e 19 20 0 0 0 (-1) (-1), m_e 20 21 51 0 0 0 0, m_e 21 22 2 3 0 0 0, m_e 22 25 41 194 100 1 0, m_e 25 28 20 31 1 6 0, m_e 28 30 0 0 1 (-2) (-2), m_e 30 31 51 0 0 0 0, m_e 31 32 4 0 0 0 0, m_e 32 35 17 102 2 5 0, m_e 35 38 20 41 1 6 0, m_e 38 40 0 0 1 (-3) (-3), m_e 40 41 51 0 0 0 0, m_e 41 42 0 0 0 0 0, m_e 42 44 5 4 1 0 0, m_e 44 45 0 0 0 0 0, m_e 45 47 5 5 1 0 0, m_e 47 49 2 5 1 0 0, m_e 49 50 0 0 0 4 4, m_e 50 53 21 146 3 96 0, m_e 53 54 4 0 0 0 0, m_e 54 55 2 1 0 0 0, m_e 55 56 2 1 0 0 0, m_e 56 57 2 2 0 0 0, m_e 57 58 2 3 0 0 0, m_e 58 60 2 5 1 0 0, m_e 60 63 40 269 142 85 0, m_e 63 64 4 0 0 0 0, m_e 64 65 2 1 0 0 0, m_e 65 66 2 1 0 0 0, m_e 66 67 2 2 0 0 0, m_e 67 68 2 3 0 0 0, m_e 68 70 2 5 1 0 0, m_e 70 71 0 0 0 1 1, m_e 71 72 9 0 5 0 0, m_e 72 75 40 269 142 85 0, m_e 75 78 21 82 4 7 0, m_e 78 79 0 0 0 1 1, m_e 79 82 19 83 0 4 0, m_e 82 83 0 0 0 0 0, m_e 83 85 5 6 1 0 0, m_e 85 86 4 0 0 0 0, m_e 86 87 2 2 0 0 0, m_e 87 88 2 1 0 0 0, m_e 88 89 2 2 0 0 0, m_e 89 90 2 3 0 0 0, m_e 90 92 2 5 1 0 0, m_e 92 95 40 269 142 85 0, m_e 95 96 4 0 0 0 0, m_e 96 97 2 2 0 0 0, m_e 97 98 2 1 0 0 0, m_e 98 99 2 2 0 0 0, m_e 99 100 2 3 0 0 0, m_e 100 102 2 5 1 0 0, m_e 102 103 0 0 0 2 2, m_e 103 104 9 0 5 0 0, m_e 104 107 40 269 142 85 0, m_e 107 110 21 114 4 7 0, m_e 110 111 0 0 0 1 1, m_e 111 114 19 115 0 4 0, m_e 114 115 0 0 0 0 0, m_e 115 117 5 7 1 0 0, m_e 117 119 2 4 1 0 0, m_e 119 121 2 6 1 0 0, m_e 121 124 20 136 0 15 0, m_e 124 126 2 7 1 0 0, m_e 126 129 20 136 0 10 0, m_e 129 130 0 0 0 1 1, m_e 130 132 2 5 1 0 0, m_e 132 133 9 0 6 0 0, m_e 133 136 19 137 0 4 0, m_e 136 137 0 0 0 0 0, m_e 137 138 9 0 4 0 0, m_e 138 140 5 4 1 0 0, m_e 140 143 8 5 0 1 1, m_e 143 146 19 47 0 (-96) 0, m_e 146 148 2 4 1 0 0, m_e 148 149 51 0 0 0 0]
def t_X5_reading : List m_E := [m_e 0 1 2 1 0 0 0, m_e 1 4 41 191 99 1 0, m_e 4 7 20 9 0 5 0, m_e 7 8 0 0 0 (-1) (-1), m_e 8 9 51 0 0 0 0, m_e 9 10 2 2 0 0 0, m_e 10 11 11 0 0 0 0, m_el 11 12 1 0 0 0, m_el 12 15 1 273 2 120, m_e 15 18 41 98 90 3 0, m_e 18 21 20 24 1 6 0, m_e 21 23 0 0 1 (-2) (-2), m_e 23 24 51 0 0 0 0, m_e 24 25 4 0 0 0 0, m_e 25 28 17 102 2 5 0, m_e 28 31 20 34 1 6 0, m_e 31 33 0 0 1 (-3) (-3), m_e 33 34 51 0 0 0 0, m_e 34 35 4 0 0 0 0, m_e 35 38 17 157 26 5 0, m_e 38 40 0 0 1 8 8, m_e 40 43 21 46 1 6 0, m_e 43 45 0 0 1 (-4) (-4), m_e 45 46 51 0 0 0 0, m_e 46 47 4 0 0 0 0, m_e 47 50 17 67 27 5 0, m_e 50 51 4 0 0 0 0, m_e 51 54 17 157 26 5 0, m_e 54 55 2 1 0 0 0, m_e 55 56 31 0 0 0 0, m_e 56 57 4 0 0 0 0, m_e 57 60 17 70 28 5 0, m_e 60 61 4 0 0 0 0, m_e 61 64 17 157 26 5 0, m_e 64 65 2 2 0 0 0, m_e 65 66 31 0 0 0 0, m_e 66 67 4 0 0 0 0, m_e 67 68 15 0 0 0 0, m_e 68 71 17 157 26 5 0, m_e 71 72 0 0 0 1 1, m_e 72 73 9 0 0 0 0, m_e 73 76 18 157 26 5 0, m_e 76 77 4 0 0 0 0, m_e 77 80 17 157 26 5 0, m_e 80 81 0 0 0 1 1, m_e 81 82 9 0 1 0 0, m_e 82 83 51 0 0 0 0]
def t_X5_back : List m_E := [m_e 0 1 2 1 0 0 0, m_e 1 2 11 0 0 0 0, m_el 2 3 1 0 0 0, m_e 3 4 4 0 0 0 0, m_e 4 7 17 157 26 5 0, m_e 7 8 11 0 0 0 0, m_e 8 11 41 98 90 3 0, m_e 11 14 20 17 1 6 0, m_e 14 16 0 0 1 (-2) (-2), m_e 16 17 51 0 0 0 0, m_e 17 18 4 0 0 0 0, m_e 18 19 15 0 0 0 0, m_e 19 22 17 157 26 5 0, m_e 22 23 2 1 0 0 0, m_e 23 24 9 0 1 0 0, m_e 24 27 18 157 26 5 0, m_e 27 28 4 0 0 0 0, m_e 28 31 17 157 26 5 0, m_e 31 32 51 0 0 0 0]
def t_X5_areSo : List m_E := [m_e 0 1 4 0 0 0 0, m_e 1 4 40 183 113 80 0, m_e 4 5 0 0 0 1 1, m_e 5 6 5 1 0 0 0, m_e 6 7 0 0 0 0 0, m_e 7 8 5 2 0 0 0, m_e 8 9 2 2 0 0 0, m_e 9 10 4 0 0 0 0, m_e 10 13 17 157 26 5 0, m_e 13 16 21 52 3 39 0, m_e 16 17 2 1 0 0 0, m_e 17 20 20 44 0 27 0, m_e 20 21 4 0 0 0 0, m_e 21 24 17 55 21 5 0, m_e 24 25 4 0 0 0 0, m_e 25 28 17 67 27 5 0, m_e 28 29 2 2 0 0 0, m_e 29 30 30 0 0 0 0, m_e 30 31 30 0 0 0 0, m_e 31 32 4 0 0 0 0, m_e 32 35 17 70 28 5 0, m_e 35 36 2 2 0 0 0, m_e 36 37 30 0 0 0 0, m_e 37 40 21 44 1 7 0, m_e 40 41 0 0 0 1 1, m_e 41 44 19 45 0 4 0, m_e 44 45 0 0 0 0 0, m_e 45 46 5 1 0 0 0, m_e 46 49 8 2 0 1 1, m_e 49 52 19 8 0 (-41) 0, m_e 52 53 2 1 0 0 0, m_e 53 54 51 0 0 0 0]
def t_X5_kinds : List m_E := [m_e 0 1 4 0 0 0 0, m_e 1 2 2 1 0 0 0, m_e 2 5 40 186 98 81 0, m_e 5 8 20 10 0 5 0, m_e 8 9 0 0 0 (-1) (-1), m_e 9 10 51 0 0 0 0, m_e 10 11 4 0 0 0 0, m_e 11 14 17 16 5 5 0, m_e 14 15 2 1 0 0 0, m_e 15 16 30 0 0 0 0, m_e 16 17 5 2 0 0 0, m_e 17 18 0 0 0 0 0, m_e 18 19 5 3 0 0 0, m_e 19 20 0 0 0 0 0, m_e 20 22 5 4 1 0 0, m_e 22 24 2 4 1 0 0, m_e 24 25 0 0 0 3 3, m_e 25 28 21 60 3 35 0, m_e 28 29 4 0 0 0 0, m_e 29 32 17 16 5 5 0, m_e 32 33 2 1 0 0 0, m_e 33 35 2 4 1 0 0, m_e 35 36 31 0 0 0 0, m_e 36 37 2 3 0 0 0, m_e 37 38 4 0 0 0 0, m_e 38 41 40 275 146 80 0, m_e 41 44 20 51 0 10 0, m_e 44 45 0 0 0 1 1, m_e 45 47 2 4 1 0 0, m_e 47 48 9 0 6 0 0, m_e 48 51 19 52 0 4 0, m_e 51 52 0 0 0 0 0, m_e 52 53 9 0 4 0 0, m_e 53 54 5 3 0 0 0, m_e 54 57 8 4 0 1 1, m_e 57 60 19 22 0 (-35) 0, m_e 60 61 4 0 0 0 0, m_e 61 64 17 16 5 5 0, m_e 64 65 2 1 0 0 0, m_e 65 66 2 2 0 0 0, m_e 66 67 31 0 0 0 0, m_e 67 68 2 3 0 0 0, m_e 68 69 51 0 0 0 0]
def t_X5_paces : List m_E := [m_e 0 1 4 0 0 0 0, m_e 1 2 2 1 0 0 0, m_e 2 5 40 186 98 81 0, m_e 5 8 20 10 0 5 0, m_e 8 9 0 0 0 (-1) (-1), m_e 9 10 51 0 0 0 0, m_e 10 11 4 0 0 0 0, m_e 11 14 17 19 6 5 0, m_e 14 15 2 1 0 0 0, m_e 15 16 30 0 0 0 0, m_e 16 17 5 2 0 0 0, m_e 17 18 0 0 0 0 0, m_e 18 19 5 3 0 0 0, m_e 19 20 0 0 0 1 1, m_e 20 22 5 4 1 0 0, m_e 22 24 2 4 1 0 0, m_e 24 25 0 0 0 4 4, m_e 25 28 21 60 3 35 0, m_e 28 29 4 0 0 0 0, m_e 29 32 17 19 6 5 0, m_e 32 33 2 1 0 0 0, m_e 33 35 2 4 1 0 0, m_e 35 36 31 0 0 0 0, m_e 36 37 2 3 0 0 0, m_e 37 38 4 0 0 0 0, m_e 38 41 40 275 146 80 0, m_e 41 44 20 51 0 10 0, m_e 44 45 0 0 0 1 1, m_e 45 47 2 4 1 0 0, m_e 47 48 9 0 6 0 0, m_e 48 51 19 52 0 4 0, m_e 51 52 0 0 0 0 0, m_e 52 53 9 0 4 0 0, m_e 53 54 5 3 0 0 0, m_e 54 57 8 4 0 1 1, m_e 57 60 19 22 0 (-35) 0, m_e 60 61 4 0 0 0 0, m_e 61 64 17 19 6 5 0, m_e 64 65 2 1 0 0 0, m_e 65 66 2 2 0 0 0, m_e 66 67 31 0 0 0 0, m_e 67 68 2 3 0 0 0, m_e 68 69 51 0 0 0 0]
def t_X5_starts : List m_E := [m_e 0 1 4 0 0 0 0, m_e 1 2 2 1 0 0 0, m_e 2 5 40 186 98 81 0, m_e 5 8 20 10 0 5 0, m_e 8 9 0 0 0 (-1) (-1), m_e 9 10 51 0 0 0 0, m_e 10 11 4 0 0 0 0, m_e 11 14 17 22 7 5 0, m_e 14 15 2 1 0 0 0, m_e 15 16 30 0 0 0 0, m_e 16 17 5 2 0 0 0, m_e 17 18 0 0 0 0 0, m_e 18 19 5 3 0 0 0, m_e 19 20 0 0 0 0 0, m_e 20 22 5 4 1 0 0, m_e 22 24 2 4 1 0 0, m_e 24 25 4 0 0 0 0, m_e 25 28 17 95 1 5 0, m_e 28 31 21 63 3 35 0, m_e 31 32 4 0 0 0 0, m_e 32 35 17 22 7 5 0, m_e 35 36 2 1 0 0 0, m_e 36 38 2 4 1 0 0, m_e 38 39 31 0 0 0 0, m_e 39 40 2 3 0 0 0, m_e 40 41 4 0 0 0 0, m_e 41 44 40 275 146 80 0, m_e 44 47 20 54 0 10 0, m_e 47 48 0 0 0 1 1, m_e 48 50 2 4 1 0 0, m_e 50 51 9 0 6 0 0, m_e 51 54 19 55 0 4 0, m_e 54 55 0 0 0 0 0, m_e 55 56 9 0 4 0 0, m_e 56 57 5 3 0 0 0, m_e 57 60 8 4 0 1 1, m_e 60 63 19 22 0 (-38) 0, m_e 63 64 4 0 0 0 0, m_e 64 67 17 22 7 5 0, m_e 67 68 2 1 0 0 0, m_e 68 69 2 2 0 0 0, m_e 69 70 31 0 0 0 0, m_e 70 71 2 3 0 0 0, m_e 71 72 51 0 0 0 0]
def t_X5_odds : List m_E := [m_e 0 1 2 1 0 0 0, m_e 1 4 41 191 99 1 0, m_e 4 7 20 36 1 32 0, m_e 7 8 2 2 0 0 0, m_e 8 9 11 0 0 0 0, m_el 9 10 1 0 0 0, m_el 10 13 1 273 2 120, m_e 13 16 41 98 90 3 0, m_e 16 19 20 36 0 20 0, m_e 19 20 2 3 0 0 0, m_e 20 21 11 0 0 0 0, m_el 21 22 1 0 0 0, m_el 22 23 1 0 1 1, m_e 23 26 41 98 90 3 0, m_e 26 29 20 36 0 10 0, m_e 29 30 4 0 0 0 0, m_e 30 33 17 102 2 5 0, m_e 33 36 20 40 1 7 0, m_e 36 39 41 91 91 0 0, m_e 39 40 52 0 0 0 0, m_e 40 41 4 0 0 0 0, m_e 41 44 40 235 129 80 0, m_e 44 45 0 0 0 0 0, m_e 45 47 5 4 1 0 0, m_e 47 48 0 0 0 0 0, m_e 48 50 5 5 1 0 0, m_e 50 52 2 5 1 0 0, m_e 52 53 4 0 0 0 0, m_e 53 56 40 247 132 80 0, m_e 56 59 21 90 3 34 0, m_e 59 60 4 0 0 0 0, m_e 60 62 2 5 1 0 0, m_e 62 65 40 250 133 81 0, m_e 65 67 2 4 1 0 0, m_e 67 68 4 0 0 0 0, m_e 68 69 2 1 0 0 0, m_e 69 72 40 200 124 81 0, m_e 72 73 2 2 0 0 0, m_e 73 76 21 80 2 7 0, m_e 76 77 0 0 0 1 1, m_e 77 80 19 81 0 4 0, m_e 80 81 0 0 0 0 0, m_e 81 82 9 0 0 0 0, m_e 82 84 5 4 1 0 0, m_e 84 87 8 5 0 1 1, m_e 87 90 19 50 0 (-37) 0, m_e 90 91 4 0 0 0 0, m_e 91 94 40 242 130 80 0, m_e 94 96 2 4 1 0 0, m_e 96 97 11 0 0 0 0, m_e 97 98 4 0 0 0 0, m_e 98 101 40 247 132 80 0, m_e 101 102 11 0 0 0 0, m_e 102 103 2 3 0 0 0, m_e 103 106 41 279 93 3 0, m_e 106 107 52 0 0 0 0]
def t_X5_noSheet : List m_E := [m_e 0 1 2 0 0 0 0, m_e 1 2 11 0 0 0 0, m_el 2 3 1 0 0 0, m_el 3 6 1 105 2 3, m_e 6 9 41 98 90 3 0, m_e 9 12 20 16 1 7 0, m_e 12 13 0 0 0 1 1, m_e 13 16 19 17 0 4 0, m_e 16 17 0 0 0 0 0, m_e 17 18 51 0 0 0 0]
def t_X5_sheet : List m_E := [m_e 0 1 2 1 0 0 0, m_e 1 4 41 141 151 1 0, m_e 4 7 20 13 0 9 0, m_e 7 8 4 0 0 0 0, m_e 8 9 0 0 0 (-1) (-1), m_e 9 12 40 145 94 81 0, m_e 12 13 51 0 0 0 0, m_e 13 14 2 2 0 0 0, m_e 14 15 11 0 0 0 0, m_el 15 16 1 0 0 0, m_el 16 19 1 148 2 2, m_e 19 22 41 98 90 3 0, m_e 22 25 20 31 0 9 0, m_e 25 26 2 3 0 0 0, m_e 26 28 0 0 1 60 60, m_e 28 31 21 38 5 10 0, m_e 31 32 4 0 0 0 0, m_e 32 34 0 0 1 (-2) (-2), m_e 34 37 40 145 94 81 0, m_e 37 38 51 0 0 0 0, m_e 38 39 2 3 0 0 0, m_e 39 42 20 48 3 9 0, m_e 42 43 4 0 0 0 0, m_e 43 44 0 0 0 4 4, m_e 44 47 40 133 95 81 0, m_e 47 48 51 0 0 0 0, m_e 48 49 4 0 0 0 0, m_e 49 52 17 73 29 5 0, m_e 52 53 2 1 0 0 0, m_e 53 54 2 3 0 0 0, m_e 54 55 31 0 0 0 0, m_e 55 56 4 0 0 0 0, m_e 56 59 17 76 30 5 0, m_e 59 60 2 1 0 0 0, m_e 60 61 2 2 0 0 0, m_e 61 62 31 0 0 0 0, m_e 62 63 0 0 0 0 0, m_e 63 65 5 4 1 0 0, m_e 65 67 2 4 1 0 0, m_e 67 68 2 3 0 0 0, m_e 68 71 21 90 3 22 0, m_e 71 72 4 0 0 0 0, m_e 72 75 17 79 31 5 0, m_e 75 77 0 0 1 60 60, m_e 77 78 2 1 0 0 0, m_e 78 79 9 0 2 0 0, m_e 79 81 2 4 1 0 0, m_e 81 82 9 0 0 0 0, m_e 82 83 0 0 0 0 0, m_e 83 84 31 0 0 0 0, m_e 84 87 8 4 0 1 1, m_e 87 90 19 65 0 (-22) 0, m_e 90 91 4 0 0 0 0, m_e 91 92 0 0 0 1 1, m_e 92 95 40 145 94 81 0, m_e 95 96 51 0 0 0 0]
def t_X5_lose : List m_E := [m_e 0 1 2 1 0 0 0, m_e 1 4 41 141 151 1 0, m_e 4 7 20 9 0 5 0, m_e 7 8 0 0 0 (-1) (-1), m_e 8 9 51 0 0 0 0, m_e 9 10 4 0 0 0 0, m_e 10 13 17 73 29 5 0, m_e 13 14 2 1 0 0 0, m_e 14 15 30 0 0 0 0, m_e 15 18 20 22 3 7 0, m_e 18 19 0 0 0 0 0, m_e 19 22 19 23 0 4 0, m_e 22 23 0 0 0 1 1, m_e 23 24 5 2 0 0 0, m_e 24 25 4 0 0 0 0, m_e 25 28 17 73 29 5 0, m_e 28 29 2 1 0 0 0, m_e 29 30 0 0 0 (-1) (-1), m_e 30 31 31 0 0 0 0, m_e 31 32 2 2 0 0 0, m_e 32 33 51 0 0 0 0]
def t_X5_noCell : List m_E := [m_e 0 1 4 0 0 0 0, m_e 1 4 17 73 29 5 0, m_e 4 5 2 1 0 0 0, m_e 5 6 30 0 0 0 0, m_e 6 9 20 13 3 7 0, m_e 9 10 0 0 0 1 1, m_e 10 13 19 36 0 26 0, m_e 13 14 2 2 0 0 0, m_e 14 15 11 0 0 0 0, m_el 15 16 1 0 0 0, m_e 16 17 4 0 0 0 0, m_e 17 20 17 73 29 5 0, m_e 20 21 2 1 0 0 0, m_e 21 22 30 0 0 0 0, m_e 22 23 11 0 0 0 0, m_el 23 24 1 0 1 1, m_e 24 25 10 0 1 0 0, m_e 25 28 41 98 90 3 0, m_e 28 31 20 35 0 7 0, m_e 31 32 0 0 0 0 0, m_e 32 35 19 36 0 4 0, m_e 35 36 0 0 0 3 3, m_e 36 37 51 0 0 0 0]
def t_X5_put : List m_E := [m_e 0 1 2 1 0 0 0, m_e 1 4 41 141 151 1 0, m_e 4 7 20 13 0 9 0, m_e 7 8 4 0 0 0 0, m_e 8 9 0 0 0 (-1) (-1), m_e 9 12 40 145 94 81 0, m_e 12 13 51 0 0 0 0, m_e 13 14 4 0 0 0 0, m_e 14 15 2 1 0 0 0, m_e 15 16 2 2 0 0 0, m_e 16 19 40 283 154 82 0, m_e 19 22 20 33 5 14 0, m_e 22 23 4 0 0 0 0, m_e 23 24 4 0 0 0 0, m_e 24 25 2 1 0 0 0, m_e 25 26 2 2 0 0 0, m_e 26 29 40 283 154 82 0, m_e 29 32 40 133 95 81 0, m_e 32 33 51 0 0 0 0, m_e 33 34 4 0 0 0 0, m_e 34 37 17 79 31 5 0, m_e 37 39 0 0 1 60 60, m_e 39 40 2 1 0 0 0, m_e 40 41 9 0 2 0 0, m_e 41 42 2 2 0 0 0, m_e 42 43 9 0 0 0 0, m_e 43 44 4 0 0 0 0, m_e 44 47 17 76 30 5 0, m_e 47 48 2 1 0 0 0, m_e 48 49 30 0 0 0 0, m_e 49 52 20 57 1 8 0, m_e 52 53 2 3 0 0 0, m_e 53 54 12 0 0 0 0, m_e 54 57 19 73 0 19 0, m_e 57 58 4 0 0 0 0, m_e 58 61 17 76 30 5 0, m_e 61 62 2 1 0 0 0, m_e 62 63 30 0 0 0 0, m_e 63 64 0 0 0 1 1, m_e 64 67 21 72 1 8 0, m_e 67 68 2 3 0 0 0, m_e 68 69 13 0 0 0 0, m_e 69 72 19 73 0 4 0, m_e 72 73 2 3 0 0 0, m_e 73 74 31 0 0 0 0, m_e 74 75 4 0 0 0 0, m_e 75 76 0 0 0 1 1, m_e 76 79 40 145 94 81 0, m_e 79 80 51 0 0 0 0]
def t_X5_cell : List m_E := [m_e 0 1 4 0 0 0 0, m_e 1 2 0 0 0 0 0, m_e 2 5 18 87 0 5 0, m_e 5 6 2 1 0 0 0, m_e 6 9 41 141 151 1 0, m_e 9 12 20 24 1 15 0, m_e 12 13 2 3 0 0 0, m_e 13 14 11 0 0 0 0, m_el 14 15 1 0 0 0, m_el 15 18 1 148 2 2, m_e 18 21 41 98 90 3 0, m_e 21 24 20 28 1 7 0, m_e 24 27 41 91 91 0 0, m_e 27 28 52 0 0 0 0, m_e 28 29 4 0 0 0 0, m_e 29 32 17 73 29 5 0, m_e 32 33 2 1 0 0 0, m_e 33 34 30 0 0 0 0, m_e 34 37 20 53 2 19 0, m_e 37 38 4 0 0 0 0, m_e 38 41 17 76 30 5 0, m_e 41 42 2 1 0 0 0, m_e 42 43 30 0 0 0 0, m_e 43 44 2 3 0 0 0, m_e 44 47 21 53 0 9 0, m_e 47 48 4 0 0 0 0, m_e 48 49 0 0 0 2 2, m_e 49 52 40 286 96 81 0, m_e 52 53 52 0 0 0 0, m_e 53 54 4 0 0 0 0, m_e 54 55 2 1 0 0 0, m_e 55 56 2 2 0 0 0, m_e 56 59 40 283 154 82 0, m_e 59 62 20 75 5 16 0, m_e 62 63 4 0 0 0 0, m_e 63 64 4 0 0 0 0, m_e 64 65 2 1 0 0 0, m_e 65 66 2 2 0 0 0, m_e 66 69 40 283 154 82 0, m_e 69 72 40 286 96 81 0, m_e 72 75 19 87 0 15 0, m_e 75 76 4 0 0 0 0, m_e 76 79 17 79 31 5 0, m_e 79 81 0 0 1 60 60, m_e 81 82 2 1 0 0 0, m_e 82 83 9 0 2 0 0, m_e 83 84 2 2 0 0 0, m_e 84 85 9 0 0 0 0, m_e 85 86 30 0 0 0 0, m_e 86 87 11 0 0 0 0, m_e 87 88 52 0 0 0 0]
def t_X5_isBeyond : List m_E := [m_e 0 1 2 0 0 0 0, m_e 1 4 20 20 2 19 0, m_e 4 5 3 1 0 0 0, m_el 5 6 1 0 0 0, m_e 6 7 14 0 0 0 0, m_e 7 10 20 20 2 13 0, m_e 10 11 2 0 0 0 0, m_e 11 12 11 0 0 0 0, m_e 12 13 3 1 0 0 0, m_e 13 14 10 0 0 0 0, m_e 14 15 2 3 0 0 0, m_e 15 16 11 0 0 0 0, m_e 16 17 14 0 0 0 0, m_e 17 20 20 24 5 7 0, m_e 20 21 0 0 0 1 1, m_e 21 24 19 25 0 4 0, m_e 24 25 0 0 0 0 0, m_e 25 26 51 0 0 0 0]
def t_X5_copy : List m_E := [m_e 0 1 2 1 0 0 0, m_e 1 4 41 141 151 1 0, m_e 4 7 20 14 1 10 0, m_e 7 8 2 3 0 0 0, m_e 8 11 41 141 151 1 0, m_e 11 14 20 20 0 9 0, m_e 14 15 4 0 0 0 0, m_e 15 16 0 0 0 (-1) (-1), m_e 16 19 40 145 94 81 0, m_e 19 20 51 0 0 0 0, m_e 20 21 4 0 0 0 0, m_e 21 24 17 73 29 5 0, m_e 24 25 2 1 0 0 0, m_e 25 26 30 0 0 0 0, m_e 26 29 20 38 2 12 0, m_e 29 30 4 0 0 0 0, m_e 30 33 17 73 29 5 0, m_e 33 34 2 3 0 0 0, m_e 34 35 30 0 0 0 0, m_e 35 38 20 44 3 9 0, m_e 38 39 4 0 0 0 0, m_e 39 40 0 0 0 1 1, m_e 40 43 40 133 95 81 0, m_e 43 44 51 0 0 0 0, m_e 44 45 4 0 0 0 0, m_e 45 48 17 76 30 5 0, m_e 48 49 2 1 0 0 0, m_e 49 50 30 0 0 0 0, m_e 50 51 4 0 0 0 0, m_e 51 54 17 76 30 5 0, m_e 54 55 2 3 0 0 0, m_e 55 56 30 0 0 0 0, m_e 56 59 21 65 0 9 0, m_e 59 60 4 0 0 0 0, m_e 60 61 0 0 0 2 2, m_e 61 64 40 133 95 81 0, m_e 64 65 51 0 0 0 0, m_e 65 66 2 2 0 0 0, m_e 66 68 2 5 1 0 0, m_e 68 69 11 0 0 0 0, m_e 69 70 4 0 0 0 0, m_e 70 73 17 73 29 5 0, m_e 73 74 2 1 0 0 0, m_e 74 75 30 0 0 0 0, m_e 75 78 41 137 157 3 0, m_e 78 81 20 98 1 20 0, m_e 81 83 2 4 1 0 0, m_e 83 85 2 5 1 0 0, m_e 85 86 11 0 0 0 0, m_e 86 87 4 0 0 0 0, m_e 87 90 17 73 29 5 0, m_e 90 91 2 3 0 0 0, m_e 91 92 30 0 0 0 0, m_e 92 95 41 137 157 3 0, m_e 95 98 20 104 0 9 0, m_e 98 99 4 0 0 0 0, m_e 99 100 0 0 0 3 3, m_e 100 103 40 133 95 81 0, m_e 103 104 51 0 0 0 0, m_e 104 105 0 0 0 0 0, m_e 105 107 5 6 1 0 0, m_e 107 109 2 6 1 0 0, m_e 109 111 2 5 1 0 0, m_e 111 114 21 141 3 30 0, m_e 114 115 4 0 0 0 0, m_e 115 118 17 82 32 5 0, m_e 118 120 2 6 1 0 0, m_e 120 121 4 0 0 0 0, m_e 121 124 17 79 31 5 0, m_e 124 126 0 0 1 60 60, m_e 126 127 2 1 0 0 0, m_e 127 128 9 0 2 0 0, m_e 128 129 2 2 0 0 0, m_e 129 130 9 0 0 0 0, m_e 130 132 2 6 1 0 0, m_e 132 133 9 0 0 0 0, m_e 133 134 30 0 0 0 0, m_e 134 135 31 0 0 0 0, m_e 135 138 8 6 0 1 1, m_e 138 141 19 107 0 (-31) 0, m_e 141 142 0 0 0 0 0, m_e 142 144 5 6 1 0 0, m_e 144 146 2 6 1 0 0, m_e 146 148 2 5 1 0 0, m_e 148 151 21 179 3 31 0, m_e 151 152 4 0 0 0 0, m_e 152 155 17 79 31 5 0, m_e 155 157 0 0 1 60 60, m_e 157 158 2 3 0 0 0, m_e 158 159 9 0 2 0 0, m_e 159 161 2 4 1 0 0, m_e 161 162 9 0 0 0 0, m_e 162 164 2 6 1 0 0, m_e 164 165 9 0 0 0 0, m_e 165 166 4 0 0 0 0, m_e 166 169 17 82 32 5 0, m_e 169 171 2 6 1 0 0, m_e 171 172 30 0 0 0 0, m_e 172 173 31 0 0 0 0, m_e 173 176 8 6 0 1 1, m_e 176 179 19 144 0 (-32) 0, m_e 179 180 4 0 0 0 0, m_e 180 182 2 5 1 0 0, m_e 182 185 40 145 94 81 0, m_e 185 186 51 0 0 0 0]
def t_X5_traced : List m_E := [m_e 0 1 4 0 0 0 0, m_e 1 3 0 0 1 31 31, m_e 3 4 4 0 0 0 0, m_e 4 7 17 290 33 5 0, m_e 7 8 9 0 2 0 0, m_e 8 9 2 1 0 0 0, m_e 9 10 9 0 0 0 0, m_e 10 13 18 290 33 5 0, m_e 13 14 50 0 0 0 0]
def t_X5_tell : List m_E := [m_e 0 1 4 0 0 0 0, m_e 1 2 2 1 0 0 0, m_e 2 5 40 186 98 81 0, m_e 5 8 20 10 0 5 0, m_e 8 9 0 0 0 (-1) (-1), m_e 9 10 51 0 0 0 0, m_e 10 11 4 0 0 0 0, m_e 11 14 17 16 5 5 0, m_e 14 15 2 1 0 0 0, m_e 15 16 30 0 0 0 0, m_e 16 17 5 2 0 0 0, m_e 17 18 2 2 0 0 0, m_e 18 19 0 0 0 2 2, m_e 19 22 21 27 1 8 0, m_e 22 23 4 0 0 0 0, m_e 23 24 0 0 0 3 3, m_e 24 27 40 293 159 81 0, m_e 27 28 2 2 0 0 0, m_e 28 31 20 36 5 8 0, m_e 31 32 4 0 0 0 0, m_e 32 33 0 0 0 2 2, m_e 33 36 40 293 159 81 0, m_e 36 37 4 0 0 0 0, m_e 37 38 0 0 0 1 1, m_e 38 41 40 293 159 81 0, m_e 41 42 2 2 0 0 0, m_e 42 43 0 0 0 2 2, m_e 43 46 21 51 1 8 0, m_e 46 47 4 0 0 0 0, m_e 47 48 0 0 0 1 1, m_e 48 51 40 293 159 81 0, m_e 51 52 4 0 0 0 0, m_e 52 55 17 19 6 5 0, m_e 55 56 2 1 0 0 0, m_e 56 57 30 0 0 0 0, m_e 57 58 5 3 0 0 0, m_e 58 59 2 2 0 0 0, m_e 59 62 20 66 1 7 0, m_e 62 63 2 3 0 0 0, m_e 63 66 19 84 0 21 0, m_e 66 67 2 2 0 0 0, m_e 67 68 0 0 0 1 1, m_e 68 71 21 78 1 10 0, m_e 71 72 2 3 0 0 0, m_e 72 74 0 0 1 100 100, m_e 74 75 9 0 0 0 0, m_e 75 78 19 84 0 9 0, m_e 78 79 0 0 0 2 2, m_e 79 80 2 3 0 0 0, m_e 80 81 9 0 2 0 0, m_e 81 83 0 0 1 100 100, m_e 83 84 9 0 0 0 0, m_e 84 85 51 0 0 0 0]
def t_X5_bribe : List m_E := [m_e 0 1 4 0 0 0 0, m_e 1 2 2 1 0 0 0, m_e 2 5 40 186 98 81 0, m_e 5 8 20 10 0 5 0, m_e 8 9 0 0 0 (-1) (-1), m_e 9 10 51 0 0 0 0, m_e 10 11 4 0 0 0 0, m_e 11 12 4 0 0 0 0, m_e 12 15 17 16 5 5 0, m_e 15 16 2 1 0 0 0, m_e 16 17 30 0 0 0 0, m_e 17 18 0 0 0 2 2, m_e 18 21 21 25 1 7 0, m_e 21 22 0 0 0 5 5, m_e 22 25 19 26 0 4 0, m_e 25 26 0 0 0 4 4, m_e 26 29 40 293 159 81 0, m_e 29 30 4 0 0 0 0, m_e 30 33 17 16 5 5 0, m_e 33 34 2 1 0 0 0, m_e 34 35 30 0 0 0 0, m_e 35 36 0 0 0 2 2, m_e 36 39 21 44 1 8 0, m_e 39 41 0 0 1 60 60, m_e 41 44 19 50 0 9 0, m_e 44 45 4 0 0 0 0, m_e 45 48 17 22 7 5 0, m_e 48 49 2 1 0 0 0, m_e 49 50 30 0 0 0 0, m_e 50 51 51 0 0 0 0]
def t_X5_as : List m_E := [m_e 0 1 4 0 0 0 0, m_e 1 2 2 1 0 0 0, m_e 2 5 40 186 98 81 0, m_e 5 8 20 14 0 9 0, m_e 8 9 4 0 0 0 0, m_e 9 10 0 0 0 (-1) (-1), m_e 10 13 40 145 94 81 0, m_e 13 14 51 0 0 0 0, m_e 14 15 2 2 0 0 0, m_e 15 16 11 0 0 0 0, m_el 16 17 1 0 0 0, m_el 17 20 1 148 2 2, m_e 20 23 41 98 90 3 0, m_e 23 26 20 33 1 10 0, m_e 26 27 4 0 0 0 0, m_e 27 29 0 0 1 (-2) (-2), m_e 29 32 40 145 94 81 0, m_e 32 33 51 0 0 0 0, m_e 33 34 4 0 0 0 0, m_e 34 37 17 16 5 5 0, m_e 37 38 2 1 0 0 0, m_e 38 39 30 0 0 0 0, m_e 39 40 2 2 0 0 0, m_e 40 43 21 51 2 11 0, m_e 43 44 4 0 0 0 0, m_e 44 45 0 0 0 1 1, m_e 45 48 40 145 94 81 0, m_e 48 51 19 56 0 8 0, m_e 51 52 4 0 0 0 0, m_e 52 53 0 0 0 2 2, m_e 53 56 40 133 95 81 0, m_e 56 57 51 0 0 0 0]
def t_X5_trace : List m_E := [m_e 0 1 4 0 0 0 0, m_e 1 4 17 290 33 5 0, m_e 4 5 51 0 0 0 0]
def t_X5_fault : List m_E := [m_e 0 1 4 0 0 0 0, m_e 1 4 17 87 0 5 0, m_e 4 5 51 0 0 0 0]
def t_X5_many : List m_E := [m_e 0 1 0 0 0 0 0, m_e 1 2 5 2 0 0 0, m_e 2 3 0 0 0 0 0, m_e 3 4 5 3 0 0 0, m_e 4 5 2 3 0 0 0, m_e 5 6 0 0 0 4 4, m_e 6 9 21 27 3 21 0, m_e 9 10 2 2 0 0 0, m_e 10 11 4 0 0 0 0, m_e 11 14 17 25 8 5 0, m_e 14 15 2 3 0 0 0, m_e 15 16 30 0 0 0 0, m_e 16 19 41 260 92 1 0, m_e 19 20 9 0 0 0 0, m_e 20 21 5 2 0 0 0, m_e 21 24 8 3 0 1 1, m_e 24 27 19 4 0 (-20) 0, m_e 27 28 4 0 0 0 0, m_e 28 31 40 183 113 80 0, m_e 31 32 2 1 0 0 0, m_e 32 68 60 90 9 0 0, m_e 68 69 4 0 0 0 0, m_e 69 72 17 95 1 5 0, m_e 72 73 51 0 0 0 0, m_e 73 74 4 0 0 0 0, m_e 74 77 17 102 2 5 0, m_e 77 78 51 0 0 0 0, m_e 78 79 2 2 0 0 0, m_e 79 80 51 0 0 0 0, m_e 80 81 4 0 0 0 0, m_e 81 84 40 214 114 80 0, m_e 84 85 51 0 0 0 0, m_e 85 86 4 0 0 0 0, m_e 86 89 17 157 26 5 0, m_e 89 90 51 0 0 0 0, m_e 90 92 0 0 1 (-2) (-2), m_e 92 93 51 0 0 0 0]
def t_J6_bitCount_0f7a4 : List m_E := [m_e 0 1 2 0 0 0 0, m_e 1 2 2 0 0 0 0, m_e 2 3 0 0 0 1 1, m_e 3 4 9 0 8 0 0, m_e 4 7 0 265 3 0 1431655765, m_e 7 8 9 0 3 0 0, m_e 8 9 9 0 1 0 0, m_e 9 10 5 0 0 0 0, m_e 10 11 2 0 0 0 0, m_e 11 14 0 266 3 0 858993459, m_e 14 15 9 0 3 0 0, m_e 15 16 2 0 0 0 0, m_e 16 17 0 0 0 2 2, m_e 17 18 9 0 8 0 0, m_e 18 21 0 266 3 0 858993459, m_e 21 22 9 0 3 0 0, m_e 22 23 9 0 0 0 0, m_e 23 24 5 0 0 0 0, m_e 24 25 2 0 0 0 0, m_e 25 26 2 0 0 0 0, m_e 26 27 0 0 0 4 4, m_e 27 28 9 0 8 0 0, m_e 28 29 9 0 0 0 0, m_e 29 32 0 267 3 0 252645135, m_e 32 33 9 0 3 0 0, m_e 33 34 5 0 0 0 0, m_e 34 35 2 0 0 0 0, m_e 35 36 2 0 0 0 0, m_e 36 38 0 0 1 8 8, m_e 38 39 9 0 8 0 0, m_e 39 40 9 0 0 0 0, m_e 40 41 5 0 0 0 0, m_e 41 42 2 0 0 0 0, m_e 42 43 2 0 0 0 0, m_e 43 45 0 0 1 16 16, m_e 45 46 9 0 8 0 0, m_e 46 47 9 0 0 0 0, m_e 47 48 5 0 0 0 0, m_e 48 49 2 0 0 0 0, m_e 49 51 0 0 1 63 63, m_e 51 52 9 0 3 0 0, m_e 52 53 51 0 0 0 0]
def t_J7_fill_53178 : List m_E := [m_e 0 1 0 0 0 0 0, m_e 1 2 5 2 0 0 0, m_e 2 3 4 0 0 0 0, m_e 3 4 33 0 0 0 0, m_e 4 5 5 3 0 0 0, m_e 5 6 2 2 0 0 0, m_e 6 7 2 3 0 0 0, m_e 7 10 21 20 3 13 0, m_e 10 11 4 0 0 0 0, m_e 11 12 2 2 0 0 0, m_e 12 13 2 1 0 0 0, m_e 13 14 31 0 0 0 0, m_e 14 17 8 2 0 1 1, m_e 17 20 19 5 0 (-12) 0, m_e 20 21 50 0 0 0 0]
def t_J9_max_7cf53 : List m_E := [m_e 0 1 2 0 0 0 0, m_e 1 2 2 1 0 0 0, m_e 2 5 21 9 2 7 0, m_e 5 6 2 0 0 0 0, m_e 6 9 19 10 0 4 0, m_e 9 10 2 1 0 0 0, m_e 10 11 51 0 0 0 0]
def t_L_law_0 : List m_E := [m_e 16 17 0 0 0 0 0, m_e 17 18 5 3 0 0 0, m_e 18 19 2 3 0 0 0, m_e 19 20 4 0 0 0 0, m_e 20 21 33 0 0 0 0, m_e 21 23 0 0 1 6 6, m_e 23 24 9 0 1 0 0, m_e 24 27 21 1230 4 1206 0, m_e 27 28 4 0 0 0 0, m_e 28 29 2 3 0 0 0, m_e 29 30 30 0 0 0 0, m_e 30 32 0 0 1 31 31, m_e 32 33 9 0 3 0 0, m_e 33 176 60 1224 10 0 0, m_e 176 177 4 1 0 0 0, m_e 177 178 4 0 0 0 0, m_e 178 179 2 3 0 0 0, m_e 179 180 0 0 0 1 1, m_e 180 181 9 0 0 0 0, m_e 181 182 30 0 0 0 0, m_e 182 183 4 0 0 0 0, m_e 183 184 2 3 0 0 0, m_e 184 185 0 0 0 2 2, m_e 185 186 9 0 0 0 0, m_e 186 187 30 0 0 0 0, m_e 187 188 4 0 0 0 0, m_e 188 189 2 3 0 0 0, m_e 189 190 0 0 0 3 3, m_e 190 191 9 0 0 0 0, m_e 191 192 30 0 0 0 0, m_e 192 193 4 0 0 0 0, m_e 193 194 2 3 0 0 0, m_e 194 195 0 0 0 4 4, m_e 195 196 9 0 0 0 0, m_e 196 197 30 0 0 0 0, m_e 197 200 40 13 30 68 0, m_e 200 201 4 2 0 0 0, m_e 201 202 4 0 0 0 0, m_e 202 203 2 3 0 0 0, m_e 203 204 0 0 0 1 1]
def t_L_law_1 : List m_E := [m_e 204 205 9 0 0 0 0, m_e 205 206 30 0 0 0 0, m_e 206 207 4 0 0 0 0, m_e 207 208 2 3 0 0 0, m_e 208 209 0 0 0 2 2, m_e 209 210 9 0 0 0 0, m_e 210 211 30 0 0 0 0, m_e 211 212 4 0 0 0 0, m_e 212 213 2 3 0 0 0, m_e 213 214 0 0 0 3 3, m_e 214 215 9 0 0 0 0, m_e 215 216 30 0 0 0 0, m_e 216 217 4 0 0 0 0, m_e 217 218 2 3 0 0 0, m_e 218 219 0 0 0 4 4, m_e 219 220 9 0 0 0 0, m_e 220 221 30 0 0 0 0, m_e 221 224 40 17 107 84 0, m_e 224 227 21 1224 0 1000 0, m_e 227 228 0 0 0 0 0, m_e 228 229 51 0 0 0 0, m_e 229 230 4 1 0 0 0, m_e 230 231 4 0 0 0 0, m_e 231 232 2 3 0 0 0, m_e 232 233 0 0 0 1 1, m_e 233 234 9 0 0 0 0, m_e 234 235 30 0 0 0 0, m_e 235 236 4 0 0 0 0, m_e 236 237 2 3 0 0 0, m_e 237 238 0 0 0 2 2, m_e 238 239 9 0 0 0 0, m_e 239 240 30 0 0 0 0, m_e 240 243 40 18 31 66 0, m_e 243 244 4 2 0 0 0, m_e 244 245 4 0 0 0 0, m_e 245 246 2 3 0 0 0, m_e 246 247 0 0 0 1 1, m_e 247 248 9 0 0 0 0, m_e 248 249 30 0 0 0 0, m_e 249 250 4 0 0 0 0]
def t_L_law_2 : List m_E := [m_e 250 251 2 3 0 0 0, m_e 251 252 0 0 0 2 2, m_e 252 253 9 0 0 0 0, m_e 253 254 30 0 0 0 0, m_e 254 257 40 22 117 82 0, m_e 257 260 21 1224 0 967 0, m_e 260 261 0 0 0 0 0, m_e 261 262 51 0 0 0 0, m_e 262 263 4 1 0 0 0, m_e 263 264 4 0 0 0 0, m_e 264 265 2 3 0 0 0, m_e 265 266 0 0 0 1 1, m_e 266 267 9 0 0 0 0, m_e 267 268 30 0 0 0 0, m_e 268 269 4 0 0 0 0, m_e 269 270 2 3 0 0 0, m_e 270 271 0 0 0 2 2, m_e 271 272 9 0 0 0 0, m_e 272 273 30 0 0 0 0, m_e 273 276 40 23 32 66 0, m_e 276 277 4 2 0 0 0, m_e 277 278 4 0 0 0 0, m_e 278 279 2 3 0 0 0, m_e 279 280 0 0 0 1 1, m_e 280 281 9 0 0 0 0, m_e 281 282 30 0 0 0 0, m_e 282 283 4 0 0 0 0, m_e 283 284 2 3 0 0 0, m_e 284 285 0 0 0 2 2, m_e 285 286 9 0 0 0 0, m_e 286 287 30 0 0 0 0, m_e 287 290 40 26 118 82 0, m_e 290 293 21 1224 0 934 0, m_e 293 294 0 0 0 0 0, m_e 294 295 51 0 0 0 0, m_e 295 296 4 1 0 0 0, m_e 296 297 4 0 0 0 0, m_e 297 298 2 3 0 0 0, m_e 298 299 0 0 0 1 1, m_e 299 300 9 0 0 0 0]
def t_L_law_3 : List m_E := [m_e 300 301 30 0 0 0 0, m_e 301 302 4 0 0 0 0, m_e 302 303 2 3 0 0 0, m_e 303 304 0 0 0 2 2, m_e 304 305 9 0 0 0 0, m_e 305 306 30 0 0 0 0, m_e 306 309 40 27 33 66 0, m_e 309 310 4 2 0 0 0, m_e 310 311 4 0 0 0 0, m_e 311 312 2 3 0 0 0, m_e 312 313 0 0 0 1 1, m_e 313 314 9 0 0 0 0, m_e 314 315 30 0 0 0 0, m_e 315 316 4 0 0 0 0, m_e 316 317 2 3 0 0 0, m_e 317 318 0 0 0 2 2, m_e 318 319 9 0 0 0 0, m_e 319 320 30 0 0 0 0, m_e 320 323 40 30 119 82 0, m_e 323 326 21 1224 0 901 0, m_e 326 327 0 0 0 0 0, m_e 327 328 51 0 0 0 0, m_e 328 329 4 1 0 0 0, m_e 329 330 4 0 0 0 0, m_e 330 331 2 3 0 0 0, m_e 331 332 0 0 0 1 1, m_e 332 333 9 0 0 0 0, m_e 333 334 30 0 0 0 0, m_e 334 335 4 0 0 0 0, m_e 335 336 2 3 0 0 0, m_e 336 337 0 0 0 2 2, m_e 337 338 9 0 0 0 0, m_e 338 339 30 0 0 0 0, m_e 339 342 40 31 34 66 0, m_e 342 343 4 2 0 0 0, m_e 343 344 4 0 0 0 0, m_e 344 345 2 3 0 0 0, m_e 345 346 0 0 0 1 1, m_e 346 347 9 0 0 0 0, m_e 347 348 30 0 0 0 0]
def t_L_law_4 : List m_E := [m_e 348 349 4 0 0 0 0, m_e 349 350 2 3 0 0 0, m_e 350 351 0 0 0 2 2, m_e 351 352 9 0 0 0 0, m_e 352 353 30 0 0 0 0, m_e 353 356 40 34 120 82 0, m_e 356 359 21 1224 0 868 0, m_e 359 360 0 0 0 0 0, m_e 360 361 51 0 0 0 0, m_e 361 362 4 1 0 0 0, m_e 362 363 4 0 0 0 0, m_e 363 364 2 3 0 0 0, m_e 364 365 0 0 0 1 1, m_e 365 366 9 0 0 0 0, m_e 366 367 30 0 0 0 0, m_e 367 368 4 0 0 0 0, m_e 368 369 2 3 0 0 0, m_e 369 370 0 0 0 2 2, m_e 370 371 9 0 0 0 0, m_e 371 372 30 0 0 0 0, m_e 372 375 40 35 35 66 0, m_e 375 376 4 2 0 0 0, m_e 376 377 4 0 0 0 0, m_e 377 378 2 3 0 0 0, m_e 378 379 0 0 0 1 1, m_e 379 380 9 0 0 0 0, m_e 380 381 30 0 0 0 0, m_e 381 382 4 0 0 0 0, m_e 382 383 2 3 0 0 0, m_e 383 384 0 0 0 2 2, m_e 384 385 9 0 0 0 0, m_e 385 386 30 0 0 0 0, m_e 386 389 40 38 122 82 0, m_e 389 392 21 1224 0 835 0, m_e 392 393 0 0 0 0 0, m_e 393 394 51 0 0 0 0, m_e 394 395 4 1 0 0 0, m_e 395 396 4 0 0 0 0, m_e 396 397 2 3 0 0 0, m_e 397 398 0 0 0 1 1]
def t_L_law_5 : List m_E := [m_e 398 399 9 0 0 0 0, m_e 399 400 30 0 0 0 0, m_e 400 401 4 0 0 0 0, m_e 401 402 2 3 0 0 0, m_e 402 403 0 0 0 2 2, m_e 403 404 9 0 0 0 0, m_e 404 405 30 0 0 0 0, m_e 405 408 40 39 36 66 0, m_e 408 409 4 2 0 0 0, m_e 409 410 4 0 0 0 0, m_e 410 411 2 3 0 0 0, m_e 411 412 0 0 0 1 1, m_e 412 413 9 0 0 0 0, m_e 413 414 30 0 0 0 0, m_e 414 415 4 0 0 0 0, m_e 415 416 2 3 0 0 0, m_e 416 417 0 0 0 2 2, m_e 417 418 9 0 0 0 0, m_e 418 419 30 0 0 0 0, m_e 419 422 40 42 123 82 0, m_e 422 425 21 1224 0 802 0, m_e 425 426 0 0 0 0 0, m_e 426 427 51 0 0 0 0, m_e 427 428 4 1 0 0 0, m_e 428 429 4 0 0 0 0, m_e 429 430 2 3 0 0 0, m_e 430 431 0 0 0 1 1, m_e 431 432 9 0 0 0 0, m_e 432 433 30 0 0 0 0, m_e 433 436 40 43 37 65 0, m_e 436 437 4 2 0 0 0, m_e 437 438 4 0 0 0 0, m_e 438 439 2 3 0 0 0, m_e 439 440 0 0 0 1 1, m_e 440 441 9 0 0 0 0, m_e 441 442 30 0 0 0 0, m_e 442 445 40 47 125 81 0, m_e 445 448 21 1224 0 779 0, m_e 448 449 0 0 0 0 0, m_e 449 450 51 0 0 0 0]
def t_L_law_6 : List m_E := [m_e 450 451 4 1 0 0 0, m_e 451 452 4 0 0 0 0, m_e 452 453 2 3 0 0 0, m_e 453 454 0 0 0 1 1, m_e 454 455 9 0 0 0 0, m_e 455 456 30 0 0 0 0, m_e 456 457 4 0 0 0 0, m_e 457 458 2 3 0 0 0, m_e 458 459 0 0 0 2 2, m_e 459 460 9 0 0 0 0, m_e 460 461 30 0 0 0 0, m_e 461 462 4 0 0 0 0, m_e 462 463 2 3 0 0 0, m_e 463 464 0 0 0 3 3, m_e 464 465 9 0 0 0 0, m_e 465 466 30 0 0 0 0, m_e 466 467 4 0 0 0 0, m_e 467 468 2 3 0 0 0, m_e 468 469 0 0 0 4 4, m_e 469 470 9 0 0 0 0, m_e 470 471 30 0 0 0 0, m_e 471 472 4 0 0 0 0, m_e 472 473 2 3 0 0 0, m_e 473 474 0 0 0 5 5, m_e 474 475 9 0 0 0 0, m_e 475 476 30 0 0 0 0, m_e 476 479 40 48 38 69 0, m_e 479 480 4 2 0 0 0, m_e 480 481 4 0 0 0 0, m_e 481 482 2 3 0 0 0, m_e 482 483 0 0 0 1 1, m_e 483 484 9 0 0 0 0, m_e 484 485 30 0 0 0 0, m_e 485 486 4 0 0 0 0, m_e 486 487 2 3 0 0 0, m_e 487 488 0 0 0 2 2, m_e 488 489 9 0 0 0 0, m_e 489 490 30 0 0 0 0, m_e 490 491 4 0 0 0 0, m_e 491 492 2 3 0 0 0]
def t_L_law_7 : List m_E := [m_e 492 493 0 0 0 3 3, m_e 493 494 9 0 0 0 0, m_e 494 495 30 0 0 0 0, m_e 495 496 4 0 0 0 0, m_e 496 497 2 3 0 0 0, m_e 497 498 0 0 0 4 4, m_e 498 499 9 0 0 0 0, m_e 499 500 30 0 0 0 0, m_e 500 501 4 0 0 0 0, m_e 501 502 2 3 0 0 0, m_e 502 503 0 0 0 5 5, m_e 503 504 9 0 0 0 0, m_e 504 505 30 0 0 0 0, m_e 505 508 40 52 131 85 0, m_e 508 511 21 1224 0 716 0, m_e 511 512 0 0 0 0 0, m_e 512 513 51 0 0 0 0, m_e 513 514 4 1 0 0 0, m_e 514 515 4 0 0 0 0, m_e 515 516 2 3 0 0 0, m_e 516 517 0 0 0 1 1, m_e 517 518 9 0 0 0 0, m_e 518 519 30 0 0 0 0, m_e 519 522 40 53 44 65 0, m_e 522 523 4 2 0 0 0, m_e 523 524 4 0 0 0 0, m_e 524 525 2 3 0 0 0, m_e 525 526 0 0 0 1 1, m_e 526 527 9 0 0 0 0, m_e 527 528 30 0 0 0 0, m_e 528 531 40 56 135 81 0, m_e 531 534 21 1224 0 693 0, m_e 534 535 0 0 0 0 0, m_e 535 536 51 0 0 0 0, m_e 536 537 4 1 0 0 0, m_e 537 538 4 0 0 0 0, m_e 538 539 2 3 0 0 0, m_e 539 540 0 0 0 1 1, m_e 540 541 9 0 0 0 0, m_e 541 542 30 0 0 0 0]
def t_L_law_8 : List m_E := [m_e 542 545 40 57 45 65 0, m_e 545 546 4 2 0 0 0, m_e 546 547 4 0 0 0 0, m_e 547 548 2 3 0 0 0, m_e 548 549 0 0 0 1 1, m_e 549 550 9 0 0 0 0, m_e 550 551 30 0 0 0 0, m_e 551 554 40 60 136 81 0, m_e 554 557 21 1224 0 670 0, m_e 557 558 0 0 0 0 0, m_e 558 559 51 0 0 0 0, m_e 559 560 4 1 0 0 0, m_e 560 561 4 0 0 0 0, m_e 561 562 2 3 0 0 0, m_e 562 563 0 0 0 1 1, m_e 563 564 9 0 0 0 0, m_e 564 565 30 0 0 0 0, m_e 565 566 4 0 0 0 0, m_e 566 567 2 3 0 0 0, m_e 567 568 0 0 0 2 2, m_e 568 569 9 0 0 0 0, m_e 569 570 30 0 0 0 0, m_e 570 573 40 61 47 66 0, m_e 573 574 4 2 0 0 0, m_e 574 575 4 0 0 0 0, m_e 575 576 2 3 0 0 0, m_e 576 577 0 0 0 1 1, m_e 577 578 9 0 0 0 0, m_e 578 579 30 0 0 0 0, m_e 579 580 4 0 0 0 0, m_e 580 581 2 3 0 0 0, m_e 581 582 0 0 0 2 2, m_e 582 583 9 0 0 0 0, m_e 583 584 30 0 0 0 0, m_e 584 587 40 64 137 82 0, m_e 587 590 21 1224 0 637 0, m_e 590 591 0 0 0 0 0, m_e 591 592 51 0 0 0 0, m_e 592 593 4 1 0 0 0, m_e 593 594 4 0 0 0 0]
def t_L_law_9 : List m_E := [m_e 594 595 2 3 0 0 0, m_e 595 596 0 0 0 1 1, m_e 596 597 9 0 0 0 0, m_e 597 598 30 0 0 0 0, m_e 598 599 4 0 0 0 0, m_e 599 600 2 3 0 0 0, m_e 600 601 0 0 0 2 2, m_e 601 602 9 0 0 0 0, m_e 602 603 30 0 0 0 0, m_e 603 606 40 65 48 66 0, m_e 606 607 4 2 0 0 0, m_e 607 608 4 0 0 0 0, m_e 608 609 2 3 0 0 0, m_e 609 610 0 0 0 1 1, m_e 610 611 9 0 0 0 0, m_e 611 612 30 0 0 0 0, m_e 612 613 4 0 0 0 0, m_e 613 614 2 3 0 0 0, m_e 614 615 0 0 0 2 2, m_e 615 616 9 0 0 0 0, m_e 616 617 30 0 0 0 0, m_e 617 620 40 68 139 82 0, m_e 620 623 21 1224 0 604 0, m_e 623 624 0 0 0 0 0, m_e 624 625 51 0 0 0 0, m_e 625 626 4 1 0 0 0, m_e 626 627 4 0 0 0 0, m_e 627 628 2 3 0 0 0, m_e 628 629 0 0 0 1 1, m_e 629 630 9 0 0 0 0, m_e 630 631 30 0 0 0 0, m_e 631 632 4 0 0 0 0, m_e 632 633 2 3 0 0 0, m_e 633 634 0 0 0 2 2, m_e 634 635 9 0 0 0 0, m_e 635 636 30 0 0 0 0, m_e 636 637 4 0 0 0 0, m_e 637 638 2 3 0 0 0, m_e 638 639 0 0 0 3 3, m_e 639 640 9 0 0 0 0]
def t_L_law_10 : List m_E := [m_e 640 641 30 0 0 0 0, m_e 641 644 40 69 50 67 0, m_e 644 645 4 2 0 0 0, m_e 645 646 4 0 0 0 0, m_e 646 647 2 3 0 0 0, m_e 647 648 0 0 0 1 1, m_e 648 649 9 0 0 0 0, m_e 649 650 30 0 0 0 0, m_e 650 651 4 0 0 0 0, m_e 651 652 2 3 0 0 0, m_e 652 653 0 0 0 2 2, m_e 653 654 9 0 0 0 0, m_e 654 655 30 0 0 0 0, m_e 655 656 4 0 0 0 0, m_e 656 657 2 3 0 0 0, m_e 657 658 0 0 0 3 3, m_e 658 659 9 0 0 0 0, m_e 659 660 30 0 0 0 0, m_e 660 663 40 73 141 83 0, m_e 663 666 21 1224 0 561 0, m_e 666 667 0 0 0 0 0, m_e 667 668 51 0 0 0 0, m_e 668 669 4 1 0 0 0, m_e 669 670 4 0 0 0 0, m_e 670 671 2 3 0 0 0, m_e 671 672 0 0 0 1 1, m_e 672 673 9 0 0 0 0, m_e 673 674 30 0 0 0 0, m_e 674 675 4 0 0 0 0, m_e 675 676 2 3 0 0 0, m_e 676 677 0 0 0 2 2, m_e 677 678 9 0 0 0 0, m_e 678 679 30 0 0 0 0, m_e 679 680 4 0 0 0 0, m_e 680 681 2 3 0 0 0, m_e 681 682 0 0 0 3 3, m_e 682 683 9 0 0 0 0, m_e 683 684 30 0 0 0 0, m_e 684 687 40 74 52 67 0, m_e 687 688 4 2 0 0 0]
def t_L_law_11 : List m_E := [m_e 688 689 4 0 0 0 0, m_e 689 690 2 3 0 0 0, m_e 690 691 0 0 0 1 1, m_e 691 692 9 0 0 0 0, m_e 692 693 30 0 0 0 0, m_e 693 694 4 0 0 0 0, m_e 694 695 2 3 0 0 0, m_e 695 696 0 0 0 2 2, m_e 696 697 9 0 0 0 0, m_e 697 698 30 0 0 0 0, m_e 698 699 4 0 0 0 0, m_e 699 700 2 3 0 0 0, m_e 700 701 0 0 0 3 3, m_e 701 702 9 0 0 0 0, m_e 702 703 30 0 0 0 0, m_e 703 706 40 77 143 83 0, m_e 706 709 21 1224 0 518 0, m_e 709 710 0 0 0 0 0, m_e 710 711 51 0 0 0 0, m_e 711 712 4 1 0 0 0, m_e 712 713 4 0 0 0 0, m_e 713 714 2 3 0 0 0, m_e 714 715 0 0 0 1 1, m_e 715 716 9 0 0 0 0, m_e 716 717 30 0 0 0 0, m_e 717 718 4 0 0 0 0, m_e 718 719 2 3 0 0 0, m_e 719 720 0 0 0 2 2, m_e 720 721 9 0 0 0 0, m_e 721 722 30 0 0 0 0, m_e 722 725 40 78 56 66 0, m_e 725 726 4 2 0 0 0, m_e 726 727 4 0 0 0 0, m_e 727 728 2 3 0 0 0, m_e 728 729 0 0 0 1 1, m_e 729 730 9 0 0 0 0, m_e 730 731 30 0 0 0 0, m_e 731 732 4 0 0 0 0, m_e 732 733 2 3 0 0 0, m_e 733 734 0 0 0 2 2]
def t_L_law_12 : List m_E := [m_e 734 735 9 0 0 0 0, m_e 735 736 30 0 0 0 0, m_e 736 739 40 81 144 82 0, m_e 739 742 21 1224 0 485 0, m_e 742 743 0 0 0 0 0, m_e 743 744 51 0 0 0 0, m_e 744 745 4 1 0 0 0, m_e 745 746 4 0 0 0 0, m_e 746 747 2 3 0 0 0, m_e 747 748 0 0 0 1 1, m_e 748 749 9 0 0 0 0, m_e 749 750 30 0 0 0 0, m_e 750 753 40 82 57 65 0, m_e 753 754 4 2 0 0 0, m_e 754 755 4 0 0 0 0, m_e 755 756 2 3 0 0 0, m_e 756 757 0 0 0 1 1, m_e 757 758 9 0 0 0 0, m_e 758 759 30 0 0 0 0, m_e 759 762 40 85 145 81 0, m_e 762 765 21 1224 0 462 0, m_e 765 766 0 0 0 0 0, m_e 766 767 51 0 0 0 0, m_e 767 768 4 1 0 0 0, m_e 768 769 4 0 0 0 0, m_e 769 770 2 3 0 0 0, m_e 770 771 0 0 0 1 1, m_e 771 772 9 0 0 0 0, m_e 772 773 30 0 0 0 0, m_e 773 776 40 86 58 65 0, m_e 776 777 4 2 0 0 0, m_e 777 778 4 0 0 0 0, m_e 778 779 2 3 0 0 0, m_e 779 780 0 0 0 1 1, m_e 780 781 9 0 0 0 0, m_e 781 782 30 0 0 0 0, m_e 782 785 40 89 147 81 0, m_e 785 788 21 1224 0 439 0, m_e 788 789 0 0 0 0 0, m_e 789 790 51 0 0 0 0]
def t_L_law_13 : List m_E := [m_e 790 791 4 1 0 0 0, m_e 791 792 4 0 0 0 0, m_e 792 793 2 3 0 0 0, m_e 793 794 0 0 0 1 1, m_e 794 795 9 0 0 0 0, m_e 795 796 30 0 0 0 0, m_e 796 799 40 90 59 65 0, m_e 799 800 4 2 0 0 0, m_e 800 801 4 0 0 0 0, m_e 801 802 2 3 0 0 0, m_e 802 803 0 0 0 1 1, m_e 803 804 9 0 0 0 0, m_e 804 805 30 0 0 0 0, m_e 805 808 40 93 148 81 0, m_e 808 811 21 1224 0 416 0, m_e 811 812 0 0 0 0 0, m_e 812 813 51 0 0 0 0, m_e 813 814 4 1 0 0 0, m_e 814 815 4 0 0 0 0, m_e 815 816 2 3 0 0 0, m_e 816 817 0 0 0 1 1, m_e 817 818 9 0 0 0 0, m_e 818 819 30 0 0 0 0, m_e 819 822 40 94 60 65 0, m_e 822 823 4 2 0 0 0, m_e 823 824 4 0 0 0 0, m_e 824 825 2 3 0 0 0, m_e 825 826 0 0 0 1 1, m_e 826 827 9 0 0 0 0, m_e 827 828 30 0 0 0 0, m_e 828 831 40 97 149 81 0, m_e 831 834 21 1224 0 393 0, m_e 834 835 0 0 0 0 0, m_e 835 836 51 0 0 0 0, m_e 836 837 4 1 0 0 0, m_e 837 838 4 0 0 0 0, m_e 838 839 2 3 0 0 0, m_e 839 840 0 0 0 1 1, m_e 840 841 9 0 0 0 0, m_e 841 842 30 0 0 0 0]
def t_L_law_14 : List m_E := [m_e 842 843 4 0 0 0 0, m_e 843 844 2 3 0 0 0, m_e 844 845 0 0 0 2 2, m_e 845 846 9 0 0 0 0, m_e 846 847 30 0 0 0 0, m_e 847 848 4 0 0 0 0, m_e 848 849 2 3 0 0 0, m_e 849 850 0 0 0 3 3, m_e 850 851 9 0 0 0 0, m_e 851 852 30 0 0 0 0, m_e 852 855 40 98 63 67 0, m_e 855 856 4 2 0 0 0, m_e 856 857 4 0 0 0 0, m_e 857 858 2 3 0 0 0, m_e 858 859 0 0 0 1 1, m_e 859 860 9 0 0 0 0, m_e 860 861 30 0 0 0 0, m_e 861 862 4 0 0 0 0, m_e 862 863 2 3 0 0 0, m_e 863 864 0 0 0 2 2, m_e 864 865 9 0 0 0 0, m_e 865 866 30 0 0 0 0, m_e 866 867 4 0 0 0 0, m_e 867 868 2 3 0 0 0, m_e 868 869 0 0 0 3 3, m_e 869 870 9 0 0 0 0, m_e 870 871 30 0 0 0 0, m_e 871 874 40 102 150 83 0, m_e 874 875 14 0 0 0 0, m_e 875 878 20 1224 0 349 0, m_e 878 879 0 0 0 0 0, m_e 879 880 51 0 0 0 0, m_e 880 881 4 1 0 0 0, m_e 881 882 4 0 0 0 0, m_e 882 883 2 3 0 0 0, m_e 883 884 0 0 0 1 1, m_e 884 885 9 0 0 0 0, m_e 885 886 30 0 0 0 0, m_e 886 887 4 0 0 0 0, m_e 887 888 2 3 0 0 0]
def t_L_law_15 : List m_E := [m_e 888 889 0 0 0 2 2, m_e 889 890 9 0 0 0 0, m_e 890 891 30 0 0 0 0, m_e 891 892 4 0 0 0 0, m_e 892 893 2 3 0 0 0, m_e 893 894 0 0 0 3 3, m_e 894 895 9 0 0 0 0, m_e 895 896 30 0 0 0 0, m_e 896 899 40 103 65 67 0, m_e 899 900 4 2 0 0 0, m_e 900 901 4 0 0 0 0, m_e 901 902 2 3 0 0 0, m_e 902 903 0 0 0 1 1, m_e 903 904 9 0 0 0 0, m_e 904 905 30 0 0 0 0, m_e 905 906 4 0 0 0 0, m_e 906 907 2 3 0 0 0, m_e 907 908 0 0 0 2 2, m_e 908 909 9 0 0 0 0, m_e 909 910 30 0 0 0 0, m_e 910 911 4 0 0 0 0, m_e 911 912 2 3 0 0 0, m_e 912 913 0 0 0 3 3, m_e 913 914 9 0 0 0 0, m_e 914 915 30 0 0 0 0, m_e 915 918 40 106 152 83 0, m_e 918 921 21 1224 0 306 0, m_e 921 922 0 0 0 0 0, m_e 922 923 51 0 0 0 0, m_e 923 924 4 1 0 0 0, m_e 924 925 4 0 0 0 0, m_e 925 926 2 3 0 0 0, m_e 926 927 0 0 0 1 1, m_e 927 928 9 0 0 0 0, m_e 928 929 30 0 0 0 0, m_e 929 932 40 107 66 65 0, m_e 932 933 4 2 0 0 0, m_e 933 934 4 0 0 0 0, m_e 934 935 2 3 0 0 0, m_e 935 936 0 0 0 1 1]
def t_L_law_16 : List m_E := [m_e 936 937 9 0 0 0 0, m_e 937 938 30 0 0 0 0, m_e 938 941 40 110 153 81 0, m_e 941 944 21 1224 0 283 0, m_e 944 945 0 0 0 0 0, m_e 945 946 51 0 0 0 0, m_e 946 947 4 1 0 0 0, m_e 947 948 4 0 0 0 0, m_e 948 949 2 3 0 0 0, m_e 949 950 0 0 0 1 1, m_e 950 951 9 0 0 0 0, m_e 951 952 30 0 0 0 0, m_e 952 953 4 0 0 0 0, m_e 953 954 2 3 0 0 0, m_e 954 955 0 0 0 2 2, m_e 955 956 9 0 0 0 0, m_e 956 957 30 0 0 0 0, m_e 957 958 4 0 0 0 0, m_e 958 959 2 3 0 0 0, m_e 959 960 0 0 0 3 3, m_e 960 961 9 0 0 0 0, m_e 961 962 30 0 0 0 0, m_e 962 965 40 111 67 67 0, m_e 965 966 4 2 0 0 0, m_e 966 967 4 0 0 0 0, m_e 967 968 2 3 0 0 0, m_e 968 969 0 0 0 1 1, m_e 969 970 9 0 0 0 0, m_e 970 971 30 0 0 0 0, m_e 971 972 4 0 0 0 0, m_e 972 973 2 3 0 0 0, m_e 973 974 0 0 0 2 2, m_e 974 975 9 0 0 0 0, m_e 975 976 30 0 0 0 0, m_e 976 977 4 0 0 0 0, m_e 977 978 2 3 0 0 0, m_e 978 979 0 0 0 3 3, m_e 979 980 9 0 0 0 0, m_e 980 981 30 0 0 0 0, m_e 981 984 40 114 155 83 0]
def t_L_law_17 : List m_E := [m_e 984 987 21 1224 0 240 0, m_e 987 988 0 0 0 0 0, m_e 988 989 51 0 0 0 0, m_e 989 990 4 1 0 0 0, m_e 990 991 4 0 0 0 0, m_e 991 992 2 3 0 0 0, m_e 992 993 0 0 0 1 1, m_e 993 994 9 0 0 0 0, m_e 994 995 30 0 0 0 0, m_e 995 996 4 0 0 0 0, m_e 996 997 2 3 0 0 0, m_e 997 998 0 0 0 2 2, m_e 998 999 9 0 0 0 0, m_e 999 1000 30 0 0 0 0, m_e 1000 1001 4 0 0 0 0, m_e 1001 1002 2 3 0 0 0, m_e 1002 1003 0 0 0 3 3, m_e 1003 1004 9 0 0 0 0, m_e 1004 1005 30 0 0 0 0, m_e 1005 1008 40 115 68 67 0, m_e 1008 1009 4 2 0 0 0, m_e 1009 1010 4 0 0 0 0, m_e 1010 1011 2 3 0 0 0, m_e 1011 1012 0 0 0 1 1, m_e 1012 1013 9 0 0 0 0, m_e 1013 1014 30 0 0 0 0, m_e 1014 1015 4 0 0 0 0, m_e 1015 1016 2 3 0 0 0, m_e 1016 1017 0 0 0 2 2, m_e 1017 1018 9 0 0 0 0, m_e 1018 1019 30 0 0 0 0, m_e 1019 1020 4 0 0 0 0, m_e 1020 1021 2 3 0 0 0, m_e 1021 1022 0 0 0 3 3, m_e 1022 1023 9 0 0 0 0, m_e 1023 1024 30 0 0 0 0, m_e 1024 1027 40 118 156 83 0, m_e 1027 1028 14 0 0 0 0, m_e 1028 1031 20 1224 0 196 0, m_e 1031 1032 0 0 0 0 0]
def t_L_law_18 : List m_E := [m_e 1032 1033 51 0 0 0 0, m_e 1033 1034 4 1 0 0 0, m_e 1034 1035 4 0 0 0 0, m_e 1035 1036 2 3 0 0 0, m_e 1036 1037 0 0 0 1 1, m_e 1037 1038 9 0 0 0 0, m_e 1038 1039 30 0 0 0 0, m_e 1039 1040 4 0 0 0 0, m_e 1040 1041 2 3 0 0 0, m_e 1041 1042 0 0 0 2 2, m_e 1042 1043 9 0 0 0 0, m_e 1043 1044 30 0 0 0 0, m_e 1044 1045 4 0 0 0 0, m_e 1045 1046 2 3 0 0 0, m_e 1046 1047 0 0 0 3 3, m_e 1047 1048 9 0 0 0 0, m_e 1048 1049 30 0 0 0 0, m_e 1049 1050 4 0 0 0 0, m_e 1050 1051 2 3 0 0 0, m_e 1051 1052 0 0 0 4 4, m_e 1052 1053 9 0 0 0 0, m_e 1053 1054 30 0 0 0 0, m_e 1054 1055 4 0 0 0 0, m_e 1055 1056 2 3 0 0 0, m_e 1056 1057 0 0 0 5 5, m_e 1057 1058 9 0 0 0 0, m_e 1058 1059 30 0 0 0 0, m_e 1059 1062 40 119 69 69 0, m_e 1062 1063 4 2 0 0 0, m_e 1063 1064 4 0 0 0 0, m_e 1064 1065 2 3 0 0 0, m_e 1065 1066 0 0 0 1 1, m_e 1066 1067 9 0 0 0 0, m_e 1067 1068 30 0 0 0 0, m_e 1068 1069 4 0 0 0 0, m_e 1069 1070 2 3 0 0 0, m_e 1070 1071 0 0 0 2 2, m_e 1071 1072 9 0 0 0 0, m_e 1072 1073 30 0 0 0 0, m_e 1073 1074 4 0 0 0 0]
def t_L_law_19 : List m_E := [m_e 1074 1075 2 3 0 0 0, m_e 1075 1076 0 0 0 3 3, m_e 1076 1077 9 0 0 0 0, m_e 1077 1078 30 0 0 0 0, m_e 1078 1079 4 0 0 0 0, m_e 1079 1080 2 3 0 0 0, m_e 1080 1081 0 0 0 4 4, m_e 1081 1082 9 0 0 0 0, m_e 1082 1083 30 0 0 0 0, m_e 1083 1084 4 0 0 0 0, m_e 1084 1085 2 3 0 0 0, m_e 1085 1086 0 0 0 5 5, m_e 1086 1087 9 0 0 0 0, m_e 1087 1088 30 0 0 0 0, m_e 1088 1091 40 122 158 85 0, m_e 1091 1094 21 1224 0 133 0, m_e 1094 1095 0 0 0 0 0, m_e 1095 1096 51 0 0 0 0, m_e 1096 1097 4 1 0 0 0, m_e 1097 1098 4 0 0 0 0, m_e 1098 1099 2 3 0 0 0, m_e 1099 1100 0 0 0 1 1, m_e 1100 1101 9 0 0 0 0, m_e 1101 1102 30 0 0 0 0, m_e 1102 1105 40 123 70 65 0, m_e 1105 1106 4 2 0 0 0, m_e 1106 1107 4 0 0 0 0, m_e 1107 1108 2 3 0 0 0, m_e 1108 1109 0 0 0 1 1, m_e 1109 1110 9 0 0 0 0, m_e 1110 1111 30 0 0 0 0, m_e 1111 1114 40 126 160 81 0, m_e 1114 1117 21 1224 0 110 0, m_e 1117 1118 0 0 0 0 0, m_e 1118 1119 51 0 0 0 0, m_e 1119 1120 4 1 0 0 0, m_e 1120 1121 4 0 0 0 0, m_e 1121 1122 2 3 0 0 0, m_e 1122 1123 0 0 0 1 1, m_e 1123 1124 9 0 0 0 0]
def t_L_law_20 : List m_E := [m_e 1124 1125 30 0 0 0 0, m_e 1125 1128 40 127 74 65 0, m_e 1128 1129 4 2 0 0 0, m_e 1129 1130 4 0 0 0 0, m_e 1130 1131 2 3 0 0 0, m_e 1131 1132 0 0 0 1 1, m_e 1132 1133 9 0 0 0 0, m_e 1133 1134 30 0 0 0 0, m_e 1134 1137 40 130 161 81 0, m_e 1137 1140 21 1224 0 87 0, m_e 1140 1141 0 0 0 0 0, m_e 1141 1142 51 0 0 0 0, m_e 1142 1143 4 1 0 0 0, m_e 1143 1144 4 0 0 0 0, m_e 1144 1145 2 3 0 0 0, m_e 1145 1146 0 0 0 1 1, m_e 1146 1147 9 0 0 0 0, m_e 1147 1148 30 0 0 0 0, m_e 1148 1149 4 0 0 0 0, m_e 1149 1150 2 3 0 0 0, m_e 1150 1151 0 0 0 2 2, m_e 1151 1152 9 0 0 0 0, m_e 1152 1153 30 0 0 0 0, m_e 1153 1156 40 131 76 66 0, m_e 1156 1157 4 2 0 0 0, m_e 1157 1158 4 0 0 0 0, m_e 1158 1159 2 3 0 0 0, m_e 1159 1160 0 0 0 1 1, m_e 1160 1161 9 0 0 0 0, m_e 1161 1162 30 0 0 0 0, m_e 1162 1163 4 0 0 0 0, m_e 1163 1164 2 3 0 0 0, m_e 1164 1165 0 0 0 2 2, m_e 1165 1166 9 0 0 0 0, m_e 1166 1167 30 0 0 0 0, m_e 1167 1170 40 134 162 82 0, m_e 1170 1173 21 1224 0 54 0, m_e 1173 1174 0 0 0 0 0, m_e 1174 1175 51 0 0 0 0, m_e 1175 1176 4 1 0 0 0]
def t_L_law_21 : List m_E := [m_e 1176 1179 40 135 77 64 0, m_e 1179 1180 4 2 0 0 0, m_e 1180 1183 40 139 163 80 0, m_e 1183 1186 21 1224 0 41 0, m_e 1186 1187 0 0 0 0 0, m_e 1187 1188 51 0 0 0 0, m_e 1188 1189 4 1 0 0 0, m_e 1189 1192 40 140 78 64 0, m_e 1192 1193 4 2 0 0 0, m_e 1193 1196 40 143 164 80 0, m_e 1196 1199 21 1224 0 28 0, m_e 1199 1200 0 0 0 0 0, m_e 1200 1201 51 0 0 0 0, m_e 1201 1202 4 1 0 0 0, m_e 1202 1203 4 0 0 0 0, m_e 1203 1204 2 3 0 0 0, m_e 1204 1205 0 0 0 1 1, m_e 1205 1206 9 0 0 0 0, m_e 1206 1207 30 0 0 0 0, m_e 1207 1210 40 144 79 65 0, m_e 1210 1211 4 2 0 0 0, m_e 1211 1212 4 0 0 0 0, m_e 1212 1213 2 3 0 0 0, m_e 1213 1214 0 0 0 1 1, m_e 1214 1215 9 0 0 0 0, m_e 1215 1216 30 0 0 0 0, m_e 1216 1219 40 147 165 81 0, m_e 1219 1222 21 1224 0 5 0, m_e 1222 1223 0 0 0 0 0, m_e 1223 1224 51 0 0 0 0, m_e 1224 1227 8 3 0 6 6, m_e 1227 1230 19 18 0 (-1209) 0, m_e 1230 1231 0 0 0 1 1, m_e 1231 1232 51 0 0 0 0]
def t_L_law : List m_E := t_L_law_0 ++ (t_L_law_1 ++ (t_L_law_2 ++ (t_L_law_3 ++ (t_L_law_4 ++ (t_L_law_5 ++ (t_L_law_6 ++ (t_L_law_7 ++ (t_L_law_8 ++ (t_L_law_9 ++ (t_L_law_10 ++ (t_L_law_11 ++ (t_L_law_12 ++ (t_L_law_13 ++ (t_L_law_14 ++ (t_L_law_15 ++ (t_L_law_16 ++ (t_L_law_17 ++ (t_L_law_18 ++ (t_L_law_19 ++ (t_L_law_20 ++ (t_L_law_21)))))))))))))))))))))
def m_sws : List (List (Int32 × Nat)) := [[(0, 32), (1, 35)], [(0, 40), (1, 42)], [(0, 56), (1, 66), (2, 76), (3, 86), (4, 96)], [(0, 44), (1, 54), (2, 64), (3, 74), (4, 101)], [(0, 64), (1, 96), (2, 72), (3, 80), (4, 88)], [(0, 44), (1, 50)], [(0, 36), (1, 44), (2, 52), (3, 60), (4, 79)], [(0, 48), (1, 55), (2, 62), (3, 69), (4, 76)], [(0, 92), (1, 99), (2, 106), (3, 113), (4, 115)], [(0, 68), (1, 73), (2, 78), (3, 80), (4, 85)], [(0, 176), (1, 229), (2, 262), (3, 295), (4, 328), (5, 361), (6, 394), (7, 427), (8, 450), (9, 513), (10, 536), (11, 559), (12, 592), (13, 625), (14, 668), (15, 711), (16, 744), (17, 767), (18, 790), (19, 813), (20, 836), (21, 880), (22, 923), (23, 946), (24, 989), (25, 1033), (26, 1096), (27, 1119), (28, 1142), (29, 1175), (30, 1188), (31, 1201)]]
/-- a method: the number of its kind, its name, its bytes, its words, what it gives, how, how many it takes, of no object, its table -/
abbrev m_Me : Type := Nat × MethodName × ByteArray × Nat × Option FieldType × Nat × Nat × Nat × List m_E
def M_X0_workOut : m_Me := (0, ⟨"RainRead$Fall", "workOut", "(LRainRead$Shower;)V"⟩, prog_2_method_2_code, 3, none, 0, 1, 0, t_X0_workOut)
def M_X0_findReader : m_Me := (0, ⟨"RainRead$Fall", "findReader", "(LRainRead$Shower;I)V"⟩, prog_2_method_3_code, 7, none, 0, 2, 0, t_X0_findReader)
def M_X0_bringDown : m_Me := (0, ⟨"RainRead$Fall", "bringDown", "(LRainRead$Shower;I)V"⟩, prog_2_method_4_code, 5, none, 0, 2, 0, t_X0_bringDown)
def M_X0_linesBy : m_Me := (0, ⟨"RainRead$Fall", "linesBy", "(II)I"⟩, prog_2_method_5_code, 5, (some .int), 1, 2, 0, t_X0_linesBy)
def M_X0_wetOfAll : m_Me := (0, ⟨"RainRead$Fall", "wetOfAll", "()I"⟩, prog_2_method_6_code, 3, (some .int), 1, 0, 0, t_X0_wetOfAll)
def M_X0_wetFields : m_Me := (0, ⟨"RainRead$Fall", "wetFields", "()I"⟩, prog_2_method_7_code, 3, (some .int), 1, 0, 0, t_X0_wetFields)
def M_X1_renew : m_Me := (1, ⟨"RainRead$Sheet", "renew", "(II)V"⟩, prog_3_method_2_code, 3, none, 0, 2, 0, t_X1_renew)
def M_X1_faultOfTaking : m_Me := (1, ⟨"RainRead$Sheet", "faultOfTaking", "(I)I"⟩, prog_3_method_3_code, 2, (some .int), 1, 1, 0, t_X1_faultOfTaking)
def M_X1_hasCell : m_Me := (1, ⟨"RainRead$Sheet", "hasCell", "(I)Z"⟩, prog_3_method_4_code, 2, (some .boolean), 2, 1, 0, t_X1_hasCell)
def M_X1_hasCells : m_Me := (1, ⟨"RainRead$Sheet", "hasCells", "(II)Z"⟩, prog_3_method_5_code, 3, (some .boolean), 2, 2, 0, t_X1_hasCells)
def M_X1_cut : m_Me := (1, ⟨"RainRead$Sheet", "cut", "(I)I"⟩, prog_3_method_6_code, 2, (some .int), 1, 1, 0, t_X1_cut)
def M_X2_clear : m_Me := (2, ⟨"RainRead$Shower", "clear", "()V"⟩, prog_4_method_2_code, 1, none, 0, 0, 0, t_X2_clear)
def M_X2_become : m_Me := (2, ⟨"RainRead$Shower", "become", "(LRainRead$Shower;)V"⟩, prog_4_method_3_code, 2, none, 0, 1, 0, t_X2_become)
def M_X2_hourOfReading : m_Me := (2, ⟨"RainRead$Shower", "hourOfReading", "(II)I"⟩, prog_4_method_4_code, 4, (some .int), 1, 2, 0, t_X2_hourOfReading)
def M_X2_given : m_Me := (2, ⟨"RainRead$Shower", "given", "(II)I"⟩, prog_4_method_5_code, 4, (some .int), 1, 2, 0, t_X2_given)
def M_X2_coughs : m_Me := (2, ⟨"RainRead$Shower", "coughs", "(II)Z"⟩, prog_4_method_6_code, 3, (some .boolean), 2, 2, 0, t_X2_coughs)
def M_X2_turnCough : m_Me := (2, ⟨"RainRead$Shower", "turnCough", "(II)V"⟩, prog_4_method_7_code, 3, none, 0, 2, 0, t_X2_turnCough)
def M_X2_coughCount : m_Me := (2, ⟨"RainRead$Shower", "coughCount", "()I"⟩, prog_4_method_8_code, 3, (some .int), 1, 0, 0, t_X2_coughCount)
def M_X2_goesTo : m_Me := (2, ⟨"RainRead$Shower", "goesTo", "(II)I"⟩, prog_4_method_9_code, 4, (some .int), 1, 2, 0, t_X2_goesTo)
def M_X2_beginnings : m_Me := (2, ⟨"RainRead$Shower", "beginnings", "()I"⟩, prog_4_method_10_code, 3, (some .int), 1, 0, 0, t_X2_beginnings)
def M_X2_beginBy : m_Me := (2, ⟨"RainRead$Shower", "beginBy", "(I)V"⟩, prog_4_method_11_code, 4, none, 0, 1, 0, t_X2_beginBy)
def M_X2_does : m_Me := (2, ⟨"RainRead$Shower", "does", "(II)Z"⟩, prog_4_method_12_code, 3, (some .boolean), 2, 2, 0, t_X2_does)
def M_X3_firstFault : m_Me := (3, ⟨"RainRead$TextReader", "firstFault", "(LRainRead$Sheet;IILRainRead$Shower;)I"⟩, prog_5_method_2_code, 5, (some .int), 1, 4, 0, t_X3_firstFault)
def M_X3_isText : m_Me := (3, ⟨"RainRead$TextReader", "isText", "(LRainRead$Shower;)Z"⟩, prog_5_method_3_code, 3, (some .boolean), 2, 1, 0, t_X3_isText)
def M_X3_takesLine : m_Me := (3, ⟨"RainRead$TextReader", "takesLine", "(LRainRead$Shower;I)Z"⟩, prog_5_method_4_code, 5, (some .boolean), 2, 2, 0, t_X3_takesLine)
def M_X3_takesCrier : m_Me := (3, ⟨"RainRead$TextReader", "takesCrier", "(LRainRead$Shower;I)Z"⟩, prog_5_method_5_code, 6, (some .boolean), 2, 2, 0, t_X3_takesCrier)
def M_X3_isAt : m_Me := (3, ⟨"RainRead$TextReader", "isAt", "(C)Z"⟩, prog_5_method_6_code, 2, (some .boolean), 2, 1, 0, t_X3_isAt)
def M_X3_takes : m_Me := (3, ⟨"RainRead$TextReader", "takes", "(C)Z"⟩, prog_5_method_7_code, 3, (some .boolean), 2, 1, 0, t_X3_takes)
def M_X3_takenKind : m_Me := (3, ⟨"RainRead$TextReader", "takenKind", "()I"⟩, prog_5_method_8_code, 1, (some .int), 1, 0, 0, t_X3_takenKind)
def M_X3_takenDigit : m_Me := (3, ⟨"RainRead$TextReader", "takenDigit", "(II)I"⟩, prog_5_method_9_code, 3, (some .int), 1, 2, 0, t_X3_takenDigit)
def M_X4_shower : m_Me := (4, ⟨"RainRead", "shower", "(IIII)I"⟩, prog_1_method_2_code, 8, (some .int), 1, 4, 0, t_X4_shower)
def M_X4_ofLine : m_Me := (4, ⟨"RainRead", "ofLine", "(II)I"⟩, prog_1_method_3_code, 3, (some .int), 1, 2, 0, t_X4_ofLine)
def M_X4_ofCrier : m_Me := (4, ⟨"RainRead", "ofCrier", "(II)I"⟩, prog_1_method_4_code, 3, (some .int), 1, 2, 0, t_X4_ofCrier)
def M_X4_print : m_Me := (4, ⟨"RainRead", "print", "(II)I"⟩, prog_1_method_5_code, 4, (some .int), 1, 2, 0, t_X4_print)
def M_X4_begin : m_Me := (4, ⟨"RainRead", "begin", "(II)I"⟩, prog_1_method_6_code, 4, (some .int), 1, 2, 0, t_X4_begin)
def M_X4_cough : m_Me := (4, ⟨"RainRead", "cough", "(II)I"⟩, prog_1_method_7_code, 4, (some .int), 1, 2, 0, t_X4_cough)
def M_X4_comes : m_Me := (4, ⟨"RainRead", "comes", "(II)I"⟩, prog_1_method_8_code, 4, (some .int), 1, 2, 0, t_X4_comes)
def M_X4_wet : m_Me := (4, ⟨"RainRead", "wet", "(I)I"⟩, prog_1_method_9_code, 3, (some .int), 1, 1, 0, t_X4_wet)
def M_X4_day : m_Me := (4, ⟨"RainRead", "day", "(IIIII)I"⟩, prog_1_method_10_code, 8, (some .int), 1, 5, 0, t_X4_day)
def M_X4_areActs : m_Me := (4, ⟨"RainRead", "areActs", "(LRainRead$Sheet;II)Z"⟩, prog_1_method_11_code, 5, (some .boolean), 2, 3, 0, t_X4_areActs)
def M_X4_isAct : m_Me := (4, ⟨"RainRead", "isAct", "(II)Z"⟩, prog_1_method_12_code, 3, (some .boolean), 2, 2, 0, t_X4_isAct)
def M_X4_firstWrong : m_Me := (4, ⟨"RainRead", "firstWrong", "(LRainRead$Sheet;II)I"⟩, prog_1_method_13_code, 5, (some .int), 1, 3, 0, t_X4_firstWrong)
def M_X4_answerOfDay : m_Me := (4, ⟨"RainRead", "answerOfDay", "(II)I"⟩, prog_1_method_14_code, 3, (some .int), 1, 2, 0, t_X4_answerOfDay)
def M_X4_isAskedOfDay : m_Me := (4, ⟨"RainRead", "isAskedOfDay", "(I)Z"⟩, prog_1_method_15_code, 1, (some .boolean), 2, 1, 1, t_X4_isAskedOfDay)
def M_X4_whole : m_Me := (4, ⟨"RainRead", "whole", "(I)I"⟩, prog_1_method_16_code, 6, (some .int), 1, 1, 0, t_X4_whole)
def M_X4_most : m_Me := (4, ⟨"RainRead", "most", "(I)I"⟩, prog_1_method_17_code, 6, (some .int), 1, 1, 0, t_X4_most)
def M_X4_startIn : m_Me := (4, ⟨"RainRead", "startIn", "(II)I"⟩, prog_1_method_18_code, 3, (some .int), 1, 2, 0, t_X4_startIn)
def M_X4_strayed : m_Me := (4, ⟨"RainRead", "strayed", "(II)I"⟩, prog_1_method_19_code, 5, (some .int), 1, 2, 0, t_X4_strayed)
def M_X4_saved : m_Me := (4, ⟨"RainRead", "saved", "(II)I"⟩, prog_1_method_20_code, 6, (some .int), 1, 2, 0, t_X4_saved)
def M_X4_savesBy : m_Me := (4, ⟨"RainRead", "savesBy", "(III)Z"⟩, prog_1_method_21_code, 5, (some .boolean), 2, 3, 0, t_X4_savesBy)
def M_X4_misprint : m_Me := (4, ⟨"RainRead", "misprint", "(III)I"⟩, prog_1_method_22_code, 7, (some .int), 1, 3, 0, t_X4_misprint)
def M_X4_isWetBy : m_Me := (4, ⟨"RainRead", "isWetBy", "(IIII)Z"⟩, prog_1_method_23_code, 6, (some .boolean), 2, 4, 0, t_X4_isWetBy)
def M_X4_rests : m_Me := (4, ⟨"RainRead", "rests", "(III)I"⟩, prog_1_method_24_code, 9, (some .int), 1, 3, 0, t_X4_rests)
def M_X4_painOfFirst : m_Me := (4, ⟨"RainRead", "painOfFirst", "(IIII)I"⟩, prog_1_method_25_code, 5, (some .int), 1, 4, 0, t_X4_painOfFirst)
def M_X4_painOfSecond : m_Me := (4, ⟨"RainRead", "painOfSecond", "(IIII)I"⟩, prog_1_method_26_code, 5, (some .int), 1, 4, 0, t_X4_painOfSecond)
def M_X4_coughInTrial : m_Me := (4, ⟨"RainRead", "coughInTrial", "(IIII)V"⟩, prog_1_method_27_code, 6, none, 0, 4, 0, t_X4_coughInTrial)
def M_X4_reading : m_Me := (4, ⟨"RainRead", "reading", "(II)I"⟩, prog_1_method_28_code, 4, (some .int), 1, 2, 0, t_X4_reading)
def M_X4_back : m_Me := (4, ⟨"RainRead", "back", "(I)I"⟩, prog_1_method_29_code, 2, (some .int), 1, 1, 0, t_X4_back)
def M_X4_kinds : m_Me := (4, ⟨"RainRead", "kinds", "(I)I"⟩, prog_1_method_30_code, 2, (some .int), 1, 1, 0, t_X4_kinds)
def M_X4_paces : m_Me := (4, ⟨"RainRead", "paces", "(I)I"⟩, prog_1_method_31_code, 2, (some .int), 1, 1, 0, t_X4_paces)
def M_X4_starts : m_Me := (4, ⟨"RainRead", "starts", "(I)I"⟩, prog_1_method_32_code, 2, (some .int), 1, 1, 0, t_X4_starts)
def M_X4_fitting : m_Me := (4, ⟨"RainRead", "fitting", "(I[III)I"⟩, prog_1_method_33_code, 7, (some .int), 1, 4, 0, t_X4_fitting)
def M_X4_allReadingsAreSo : m_Me := (4, ⟨"RainRead", "allReadingsAreSo", "()Z"⟩, prog_1_method_34_code, 2, (some .boolean), 2, 0, 0, t_X4_allReadingsAreSo)
def M_X4_odds : m_Me := (4, ⟨"RainRead", "odds", "(III)J"⟩, prog_1_method_35_code, 7, (some .long), 3, 3, 0, t_X4_odds)
def M_X4_commonPart : m_Me := (4, ⟨"RainRead", "commonPart", "(II)I"⟩, prog_1_method_36_code, 3, (some .int), 1, 2, 1, t_X4_commonPart)
def M_X4_sheet : m_Me := (4, ⟨"RainRead", "sheet", "(III)I"⟩, prog_1_method_37_code, 4, (some .int), 1, 3, 0, t_X4_sheet)
def M_X4_lose : m_Me := (4, ⟨"RainRead", "lose", "(I)I"⟩, prog_1_method_38_code, 3, (some .int), 1, 1, 0, t_X4_lose)
def M_X4_put : m_Me := (4, ⟨"RainRead", "put", "(III)I"⟩, prog_1_method_39_code, 5, (some .int), 1, 3, 0, t_X4_put)
def M_X4_cell : m_Me := (4, ⟨"RainRead", "cell", "(III)J"⟩, prog_1_method_40_code, 6, (some .long), 3, 3, 0, t_X4_cell)
def M_X4_copy : m_Me := (4, ⟨"RainRead", "copy", "(IIIII)I"⟩, prog_1_method_41_code, 8, (some .int), 1, 5, 0, t_X4_copy)
def M_X4_tell : m_Me := (4, ⟨"RainRead", "tell", "(I)I"⟩, prog_1_method_42_code, 2, (some .int), 1, 1, 0, t_X4_tell)
def M_X4_plainTelling : m_Me := (4, ⟨"RainRead", "plainTelling", "(I)I"⟩, prog_1_method_43_code, 2, (some .int), 1, 1, 0, t_X4_plainTelling)
def M_X4_mumblingTelling : m_Me := (4, ⟨"RainRead", "mumblingTelling", "(I)I"⟩, prog_1_method_44_code, 2, (some .int), 1, 1, 0, t_X4_mumblingTelling)
def M_X4_chantingTelling : m_Me := (4, ⟨"RainRead", "chantingTelling", "(I)I"⟩, prog_1_method_45_code, 3, (some .int), 1, 1, 0, t_X4_chantingTelling)
def M_X4_bribe : m_Me := (4, ⟨"RainRead", "bribe", "(I)I"⟩, prog_1_method_46_code, 2, (some .int), 1, 1, 0, t_X4_bribe)
def M_X4_leave : m_Me := (4, ⟨"RainRead", "leave", "(I)V"⟩, prog_1_method_47_code, 2, none, 0, 1, 0, t_X4_leave)
def M_X4_as : m_Me := (4, ⟨"RainRead", "as", "(II)I"⟩, prog_1_method_48_code, 3, (some .int), 1, 2, 0, t_X4_as)
def M_X4_trace : m_Me := (4, ⟨"RainRead", "trace", "()I"⟩, prog_1_method_49_code, 1, (some .int), 1, 0, 0, t_X4_trace)
def M_X4_fault : m_Me := (4, ⟨"RainRead", "fault", "()I"⟩, prog_1_method_50_code, 1, (some .int), 1, 0, 0, t_X4_fault)
def M_X4_many : m_Me := (4, ⟨"RainRead", "many", "(I)I"⟩, prog_1_method_51_code, 2, (some .int), 1, 1, 0, t_X4_many)
def M_X4_faulted : m_Me := (4, ⟨"RainRead", "faulted", "(I)I"⟩, prog_1_method_52_code, 2, (some .int), 1, 1, 0, t_X4_faulted)
def M_X4_refusalOf : m_Me := (4, ⟨"RainRead", "refusalOf", "(IZ)I"⟩, prog_1_method_53_code, 3, (some .int), 1, 2, 0, t_X4_refusalOf)
def M_X4_hasShower : m_Me := (4, ⟨"RainRead", "hasShower", "()Z"⟩, prog_1_method_54_code, 1, (some .boolean), 2, 0, 0, t_X4_hasShower)
def M_X4_isLine : m_Me := (4, ⟨"RainRead", "isLine", "(I)Z"⟩, prog_1_method_55_code, 2, (some .boolean), 2, 1, 0, t_X4_isLine)
def M_X4_isCrier : m_Me := (4, ⟨"RainRead", "isCrier", "(I)Z"⟩, prog_1_method_56_code, 2, (some .boolean), 2, 1, 0, t_X4_isCrier)
def M_X4_isField : m_Me := (4, ⟨"RainRead", "isField", "(I)Z"⟩, prog_1_method_57_code, 1, (some .boolean), 2, 1, 1, t_X4_isField)
def M_X4_isHour : m_Me := (4, ⟨"RainRead", "isHour", "(I)Z"⟩, prog_1_method_58_code, 1, (some .boolean), 2, 1, 1, t_X4_isHour)
def M_X4_isSheet : m_Me := (4, ⟨"RainRead", "isSheet", "(I)Z"⟩, prog_1_method_59_code, 1, (some .boolean), 2, 1, 1, t_X4_isSheet)
def M_X4_isLane : m_Me := (4, ⟨"RainRead", "isLane", "(I)Z"⟩, prog_1_method_60_code, 1, (some .boolean), 2, 1, 1, t_X4_isLane)
def M_X4_isWithin : m_Me := (4, ⟨"RainRead", "isWithin", "(II)Z"⟩, prog_1_method_61_code, 2, (some .boolean), 2, 2, 1, t_X4_isWithin)
def M_X5_in : m_Me := (5, ⟨"RainReadModel", "in", "(JJJ)Z"⟩, prog_7_method_2_code, 6, (some .boolean), 2, 3, 1, t_X5_in)
def M_X5_lost : m_Me := (5, ⟨"RainReadModel", "lost", "()J"⟩, prog_7_method_3_code, 0, (some .long), 3, 0, 1, t_X5_lost)
def M_X5_bits : m_Me := (5, ⟨"RainReadModel", "bits", "(I)I"⟩, prog_7_method_4_code, 3, (some .int), 1, 1, 1, t_X5_bits)
def M_X5_share : m_Me := (5, ⟨"RainReadModel", "share", "(JJI)J"⟩, prog_7_method_5_code, 11, (some .long), 3, 3, 1, t_X5_share)
def M_X5_refused : m_Me := (5, ⟨"RainReadModel", "refused", "(I)I"⟩, prog_7_method_6_code, 2, (some .int), 1, 1, 0, t_X5_refused)
def M_X5_failed : m_Me := (5, ⟨"RainReadModel", "failed", "(I)I"⟩, prog_7_method_7_code, 2, (some .int), 1, 1, 0, t_X5_failed)
def M_X5_failedLong : m_Me := (5, ⟨"RainReadModel", "failedLong", "(I)J"⟩, prog_7_method_8_code, 2, (some .long), 3, 1, 0, t_X5_failedLong)
def M_X5_noLine : m_Me := (5, ⟨"RainReadModel", "noLine", "(I)Z"⟩, prog_7_method_9_code, 2, (some .boolean), 2, 1, 0, t_X5_noLine)
def M_X5_noCrier : m_Me := (5, ⟨"RainReadModel", "noCrier", "(I)Z"⟩, prog_7_method_10_code, 2, (some .boolean), 2, 1, 0, t_X5_noCrier)
def M_X5_noField : m_Me := (5, ⟨"RainReadModel", "noField", "(I)Z"⟩, prog_7_method_11_code, 1, (some .boolean), 2, 1, 1, t_X5_noField)
def M_X5_isHour : m_Me := (5, ⟨"RainReadModel", "isHour", "(I)Z"⟩, prog_7_method_12_code, 1, (some .boolean), 2, 1, 1, t_X5_isHour)
def M_X5_codeAt : m_Me := (5, ⟨"RainReadModel", "codeAt", "(II)I"⟩, prog_7_method_13_code, 3, (some .int), 1, 2, 0, t_X5_codeAt)
def M_X5_figure : m_Me := (5, ⟨"RainReadModel", "figure", "(IIII)I"⟩, prog_7_method_14_code, 6, (some .int), 1, 4, 0, t_X5_figure)
def M_X5_readsLine : m_Me := (5, ⟨"RainReadModel", "readsLine", "(II)Z"⟩, prog_7_method_15_code, 3, (some .boolean), 2, 2, 0, t_X5_readsLine)
def M_X5_readsCrier : m_Me := (5, ⟨"RainReadModel", "readsCrier", "(II)Z"⟩, prog_7_method_16_code, 5, (some .boolean), 2, 2, 0, t_X5_readsCrier)
def M_X5_readsShower : m_Me := (5, ⟨"RainReadModel", "readsShower", "(II)Z"⟩, prog_7_method_17_code, 4, (some .boolean), 2, 2, 0, t_X5_readsShower)
def M_X5_cellsBarred : m_Me := (5, ⟨"RainReadModel", "cellsBarred", "(IIIJ)I"⟩, prog_7_method_18_code, 6, (some .int), 1, 4, 0, t_X5_cellsBarred)
def M_X5_shower : m_Me := (5, ⟨"RainReadModel", "shower", "(IIII)I"⟩, prog_7_method_19_code, 7, (some .int), 1, 4, 0, t_X5_shower)
def M_X5_hourBy : m_Me := (5, ⟨"RainReadModel", "hourBy", "(II)I"⟩, prog_7_method_20_code, 3, (some .int), 1, 2, 0, t_X5_hourBy)
def M_X5_reads : m_Me := (5, ⟨"RainReadModel", "reads", "(I)V"⟩, prog_7_method_21_code, 4, none, 0, 1, 0, t_X5_reads)
def M_X5_given : m_Me := (5, ⟨"RainReadModel", "given", "(II)I"⟩, prog_7_method_22_code, 4, (some .int), 1, 2, 0, t_X5_given)
def M_X5_coughs : m_Me := (5, ⟨"RainReadModel", "coughs", "(II)Z"⟩, prog_7_method_23_code, 3, (some .boolean), 2, 2, 0, t_X5_coughs)
def M_X5_falls : m_Me := (5, ⟨"RainReadModel", "falls", "(III)V"⟩, prog_7_method_24_code, 6, none, 0, 3, 0, t_X5_falls)
def M_X5_rains : m_Me := (5, ⟨"RainReadModel", "rains", "()V"⟩, prog_7_method_25_code, 2, none, 0, 0, 0, t_X5_rains)
def M_X5_wetOfAll : m_Me := (5, ⟨"RainReadModel", "wetOfAll", "()I"⟩, prog_7_method_26_code, 1, (some .int), 1, 0, 0, t_X5_wetOfAll)
def M_X5_thoseThatHang : m_Me := (5, ⟨"RainReadModel", "thoseThatHang", "()I"⟩, prog_7_method_27_code, 3, (some .int), 1, 0, 0, t_X5_thoseThatHang)
def M_X5_thoseOfMud : m_Me := (5, ⟨"RainReadModel", "thoseOfMud", "()I"⟩, prog_7_method_28_code, 3, (some .int), 1, 0, 0, t_X5_thoseOfMud)
def M_X5_ofLine : m_Me := (5, ⟨"RainReadModel", "ofLine", "(II)I"⟩, prog_7_method_29_code, 3, (some .int), 1, 2, 0, t_X5_ofLine)
def M_X5_ofCrier : m_Me := (5, ⟨"RainReadModel", "ofCrier", "(II)I"⟩, prog_7_method_30_code, 5, (some .int), 1, 2, 0, t_X5_ofCrier)
def M_X5_print : m_Me := (5, ⟨"RainReadModel", "print", "(II)I"⟩, prog_7_method_31_code, 4, (some .int), 1, 2, 0, t_X5_print)
def M_X5_begin : m_Me := (5, ⟨"RainReadModel", "begin", "(II)I"⟩, prog_7_method_32_code, 4, (some .int), 1, 2, 0, t_X5_begin)
def M_X5_coughed : m_Me := (5, ⟨"RainReadModel", "coughed", "(II)I"⟩, prog_7_method_33_code, 3, (some .int), 1, 2, 0, t_X5_coughed)
def M_X5_cough : m_Me := (5, ⟨"RainReadModel", "cough", "(II)I"⟩, prog_7_method_34_code, 3, (some .int), 1, 2, 0, t_X5_cough)
def M_X5_comes : m_Me := (5, ⟨"RainReadModel", "comes", "(II)I"⟩, prog_7_method_35_code, 3, (some .int), 1, 2, 0, t_X5_comes)
def M_X5_wetNow : m_Me := (5, ⟨"RainReadModel", "wetNow", "(I)I"⟩, prog_7_method_36_code, 2, (some .int), 1, 1, 0, t_X5_wetNow)
def M_X5_wet : m_Me := (5, ⟨"RainReadModel", "wet", "(I)I"⟩, prog_7_method_37_code, 2, (some .int), 1, 1, 0, t_X5_wet)
def M_X5_isAsTold : m_Me := (5, ⟨"RainReadModel", "isAsTold", "(II)Z"⟩, prog_7_method_38_code, 2, (some .boolean), 2, 2, 1, t_X5_isAsTold)
def M_X5_doesPair : m_Me := (5, ⟨"RainReadModel", "doesPair", "(II)Z"⟩, prog_7_method_39_code, 3, (some .boolean), 2, 2, 0, t_X5_doesPair)
def M_X5_dayOf : m_Me := (5, ⟨"RainReadModel", "dayOf", "(III)I"⟩, prog_7_method_40_code, 6, (some .int), 1, 3, 0, t_X5_dayOf)
def M_X5_keeps : m_Me := (5, ⟨"RainReadModel", "keeps", "()V"⟩, prog_7_method_41_code, 2, none, 0, 0, 0, t_X5_keeps)
def M_X5_bringsBack : m_Me := (5, ⟨"RainReadModel", "bringsBack", "()V"⟩, prog_7_method_42_code, 2, none, 0, 0, 0, t_X5_bringsBack)
def M_X5_day : m_Me := (5, ⟨"RainReadModel", "day", "(IIIII)I"⟩, prog_7_method_43_code, 9, (some .int), 1, 5, 0, t_X5_day)
def M_X5_beginnings : m_Me := (5, ⟨"RainReadModel", "beginnings", "()I"⟩, prog_7_method_44_code, 3, (some .int), 1, 0, 0, t_X5_beginnings)
def M_X5_begins : m_Me := (5, ⟨"RainReadModel", "begins", "(I)V"⟩, prog_7_method_45_code, 4, none, 0, 1, 0, t_X5_begins)
def M_X5_startIn : m_Me := (5, ⟨"RainReadModel", "startIn", "(II)I"⟩, prog_7_method_46_code, 5, (some .int), 1, 2, 0, t_X5_startIn)
def M_X5_whole : m_Me := (5, ⟨"RainReadModel", "whole", "(I)I"⟩, prog_7_method_47_code, 6, (some .int), 1, 1, 0, t_X5_whole)
def M_X5_most : m_Me := (5, ⟨"RainReadModel", "most", "(I)I"⟩, prog_7_method_48_code, 5, (some .int), 1, 1, 0, t_X5_most)
def M_X5_strayed : m_Me := (5, ⟨"RainReadModel", "strayed", "(II)I"⟩, prog_7_method_49_code, 8, (some .int), 1, 2, 0, t_X5_strayed)
def M_X5_areSaved : m_Me := (5, ⟨"RainReadModel", "areSaved", "(II)Z"⟩, prog_7_method_50_code, 5, (some .boolean), 2, 2, 0, t_X5_areSaved)
def M_X5_saved : m_Me := (5, ⟨"RainReadModel", "saved", "(II)I"⟩, prog_7_method_51_code, 6, (some .int), 1, 2, 0, t_X5_saved)
def M_X5_apart : m_Me := (5, ⟨"RainReadModel", "apart", "(II)I"⟩, prog_7_method_52_code, 2, (some .int), 1, 2, 1, t_X5_apart)
def M_X5_misprint : m_Me := (5, ⟨"RainReadModel", "misprint", "(III)I"⟩, prog_7_method_53_code, 10, (some .int), 1, 3, 0, t_X5_misprint)
def M_X5_pain : m_Me := (5, ⟨"RainReadModel", "pain", "(IIIII)I"⟩, prog_7_method_54_code, 9, (some .int), 1, 5, 0, t_X5_pain)
def M_X5_rests : m_Me := (5, ⟨"RainReadModel", "rests", "(III)I"⟩, prog_7_method_55_code, 8, (some .int), 1, 3, 0, t_X5_rests)
def M_X5_reading : m_Me := (5, ⟨"RainReadModel", "reading", "(II)I"⟩, prog_7_method_56_code, 3, (some .int), 1, 2, 0, t_X5_reading)
def M_X5_back : m_Me := (5, ⟨"RainReadModel", "back", "(I)I"⟩, prog_7_method_57_code, 2, (some .int), 1, 1, 0, t_X5_back)
def M_X5_areSo : m_Me := (5, ⟨"RainReadModel", "areSo", "()Z"⟩, prog_7_method_58_code, 3, (some .boolean), 2, 0, 0, t_X5_areSo)
def M_X5_kinds : m_Me := (5, ⟨"RainReadModel", "kinds", "(I)I"⟩, prog_7_method_59_code, 5, (some .int), 1, 1, 0, t_X5_kinds)
def M_X5_paces : m_Me := (5, ⟨"RainReadModel", "paces", "(I)I"⟩, prog_7_method_60_code, 5, (some .int), 1, 1, 0, t_X5_paces)
def M_X5_starts : m_Me := (5, ⟨"RainReadModel", "starts", "(I)I"⟩, prog_7_method_61_code, 5, (some .int), 1, 1, 0, t_X5_starts)
def M_X5_odds : m_Me := (5, ⟨"RainReadModel", "odds", "(III)J"⟩, prog_7_method_62_code, 6, (some .long), 3, 3, 0, t_X5_odds)
def M_X5_noSheet : m_Me := (5, ⟨"RainReadModel", "noSheet", "(I)Z"⟩, prog_7_method_63_code, 1, (some .boolean), 2, 1, 1, t_X5_noSheet)
def M_X5_sheet : m_Me := (5, ⟨"RainReadModel", "sheet", "(III)I"⟩, prog_7_method_64_code, 5, (some .int), 1, 3, 0, t_X5_sheet)
def M_X5_lose : m_Me := (5, ⟨"RainReadModel", "lose", "(I)I"⟩, prog_7_method_65_code, 3, (some .int), 1, 1, 0, t_X5_lose)
def M_X5_noCell : m_Me := (5, ⟨"RainReadModel", "noCell", "(II)I"⟩, prog_7_method_66_code, 3, (some .int), 1, 2, 0, t_X5_noCell)
def M_X5_put : m_Me := (5, ⟨"RainReadModel", "put", "(III)I"⟩, prog_7_method_67_code, 4, (some .int), 1, 3, 0, t_X5_put)
def M_X5_cell : m_Me := (5, ⟨"RainReadModel", "cell", "(III)J"⟩, prog_7_method_68_code, 4, (some .long), 3, 3, 0, t_X5_cell)
def M_X5_isBeyond : m_Me := (5, ⟨"RainReadModel", "isBeyond", "(IJI)Z"⟩, prog_7_method_69_code, 4, (some .boolean), 2, 3, 1, t_X5_isBeyond)
def M_X5_copy : m_Me := (5, ⟨"RainReadModel", "copy", "(IIIII)I"⟩, prog_7_method_70_code, 7, (some .int), 1, 5, 0, t_X5_copy)
def M_X5_traced : m_Me := (5, ⟨"RainReadModel", "traced", "(I)V"⟩, prog_7_method_71_code, 2, none, 0, 1, 0, t_X5_traced)
def M_X5_tell : m_Me := (5, ⟨"RainReadModel", "tell", "(I)I"⟩, prog_7_method_72_code, 4, (some .int), 1, 1, 0, t_X5_tell)
def M_X5_bribe : m_Me := (5, ⟨"RainReadModel", "bribe", "(I)I"⟩, prog_7_method_73_code, 2, (some .int), 1, 1, 0, t_X5_bribe)
def M_X5_as : m_Me := (5, ⟨"RainReadModel", "as", "(II)I"⟩, prog_7_method_74_code, 3, (some .int), 1, 2, 0, t_X5_as)
def M_X5_trace : m_Me := (5, ⟨"RainReadModel", "trace", "()I"⟩, prog_7_method_75_code, 1, (some .int), 1, 0, 0, t_X5_trace)
def M_X5_fault : m_Me := (5, ⟨"RainReadModel", "fault", "()I"⟩, prog_7_method_76_code, 1, (some .int), 1, 0, 0, t_X5_fault)
def M_X5_many : m_Me := (5, ⟨"RainReadModel", "many", "(I)I"⟩, prog_7_method_77_code, 4, (some .int), 1, 1, 0, t_X5_many)
def M_J6_bitCount_0f7a4 : m_Me := (6, ⟨"java/lang/Integer", "bitCount", "(I)I"⟩, prog_8_method_49_code, 1, (some .int), 1, 1, 1, t_J6_bitCount_0f7a4)
def M_J7_fill_53178 : m_Me := (7, ⟨"java/util/Arrays", "fill", "([II)V"⟩, prog_11_method_103_code, 4, none, 0, 2, 1, t_J7_fill_53178)
def M_J9_max_7cf53 : m_Me := (8, ⟨"java/lang/Math", "max", "(II)I"⟩, prog_9_method_65_code, 2, (some .int), 1, 2, 1, t_J9_max_7cf53)
def M_L_law : m_Me := (9, ⟨"RainReadLaw", "law", "([I)Z"⟩, code, 4, (some .boolean), 2, 1, 1, t_L_law)
def m_ms : List m_Me := [M_X0_workOut, M_X0_findReader, M_X0_bringDown, M_X0_linesBy, M_X0_wetOfAll, M_X0_wetFields, M_X1_renew, M_X1_faultOfTaking, M_X1_hasCell, M_X1_hasCells, M_X1_cut, M_X2_clear, M_X2_become, M_X2_hourOfReading, M_X2_given, M_X2_coughs, M_X2_turnCough, M_X2_coughCount, M_X2_goesTo, M_X2_beginnings, M_X2_beginBy, M_X2_does, M_X3_firstFault, M_X3_isText, M_X3_takesLine, M_X3_takesCrier, M_X3_isAt, M_X3_takes, M_X3_takenKind, M_X3_takenDigit, M_X4_shower, M_X4_ofLine, M_X4_ofCrier, M_X4_print, M_X4_begin, M_X4_cough, M_X4_comes, M_X4_wet, M_X4_day, M_X4_areActs, M_X4_isAct, M_X4_firstWrong, M_X4_answerOfDay, M_X4_isAskedOfDay, M_X4_whole, M_X4_most, M_X4_startIn, M_X4_strayed, M_X4_saved, M_X4_savesBy, M_X4_misprint, M_X4_isWetBy, M_X4_rests, M_X4_painOfFirst, M_X4_painOfSecond, M_X4_coughInTrial, M_X4_reading, M_X4_back, M_X4_kinds, M_X4_paces, M_X4_starts, M_X4_fitting, M_X4_allReadingsAreSo, M_X4_odds, M_X4_commonPart, M_X4_sheet, M_X4_lose, M_X4_put, M_X4_cell, M_X4_copy, M_X4_tell, M_X4_plainTelling, M_X4_mumblingTelling, M_X4_chantingTelling, M_X4_bribe, M_X4_leave, M_X4_as, M_X4_trace, M_X4_fault, M_X4_many, M_X4_faulted, M_X4_refusalOf, M_X4_hasShower, M_X4_isLine, M_X4_isCrier, M_X4_isField, M_X4_isHour, M_X4_isSheet, M_X4_isLane, M_X4_isWithin, M_X5_in, M_X5_lost, M_X5_bits, M_X5_share, M_X5_refused, M_X5_failed, M_X5_failedLong, M_X5_noLine, M_X5_noCrier, M_X5_noField, M_X5_isHour, M_X5_codeAt, M_X5_figure, M_X5_readsLine, M_X5_readsCrier, M_X5_readsShower, M_X5_cellsBarred, M_X5_shower, M_X5_hourBy, M_X5_reads, M_X5_given, M_X5_coughs, M_X5_falls, M_X5_rains, M_X5_wetOfAll, M_X5_thoseThatHang, M_X5_thoseOfMud, M_X5_ofLine, M_X5_ofCrier, M_X5_print, M_X5_begin, M_X5_coughed, M_X5_cough, M_X5_comes, M_X5_wetNow, M_X5_wet, M_X5_isAsTold, M_X5_doesPair, M_X5_dayOf, M_X5_keeps, M_X5_bringsBack, M_X5_day, M_X5_beginnings, M_X5_begins, M_X5_startIn, M_X5_whole, M_X5_most, M_X5_strayed, M_X5_areSaved, M_X5_saved, M_X5_apart, M_X5_misprint, M_X5_pain, M_X5_rests, M_X5_reading, M_X5_back, M_X5_areSo, M_X5_kinds, M_X5_paces, M_X5_starts, M_X5_odds, M_X5_noSheet, M_X5_sheet, M_X5_lose, M_X5_noCell, M_X5_put, M_X5_cell, M_X5_isBeyond, M_X5_copy, M_X5_traced, M_X5_tell, M_X5_bribe, M_X5_as, M_X5_trace, M_X5_fault, M_X5_many, M_J6_bitCount_0f7a4, M_J7_fill_53178, M_J9_max_7cf53, M_L_law]
def m_M (y : Nat) : m_Me := m_ms.getD y M_L_law
def m_cns : List String := ["RainRead$Fall", "RainRead$Sheet", "RainRead$Shower", "RainRead$TextReader", "RainRead", "RainReadModel", "java/lang/Integer", "java/util/Arrays", "java/lang/Math", "RainReadLaw"]
def m_cn (i : Nat) : String := m_cns.getD i ""
def m_f0 : List (String × String × String × Bool) := [("RainRead$Fall", "hourOf", "[I", true), ("RainRead$Fall", "crierOf", "[I", true), ("RainRead$Fall", "amountOf", "[I", true), ("RainRead$Fall", "cameTo", "[I", true), ("RainRead$Fall", "wetOf", "[I", true), ("RainRead$Fall", "hanging", "I", false), ("RainRead$Fall", "mud", "I", false), ("RainRead$Fall", "lost", "I", false)]
def m_f1 : List (String × String × String × Bool) := [("RainRead$Sheet", "cells", "[I", true), ("RainRead$Sheet", "isThere", "Z", false), ("RainRead$Sheet", "lane", "I", false), ("RainRead$Sheet", "count", "I", false)]
def m_f2 : List (String × String × String × Bool) := [("RainRead$Shower", "lineCount", "I", false), ("RainRead$Shower", "crierCount", "I", false), ("RainRead$Shower", "dropsOf", "[I", true), ("RainRead$Shower", "fieldOf", "[I", true), ("RainRead$Shower", "kindOf", "[I", true), ("RainRead$Shower", "paceOf", "[I", true), ("RainRead$Shower", "startOf", "[I", true), ("RainRead$Shower", "coughsAt", "[I", true)]
def m_f3 : List (String × String × String × Bool) := [("RainRead$TextReader", "codes", "[I", true), ("RainRead$TextReader", "count", "I", false), ("RainRead$TextReader", "place", "I", false)]
def m_f4 : List (String × String × String × Bool) := [("RainRead", "now", "LRainRead$Shower;", true), ("RainRead", "trial", "LRainRead$Shower;", true), ("RainRead", "fall", "LRainRead$Fall;", true), ("RainRead", "reader", "LRainRead$TextReader;", true), ("RainRead", "sheets", "[LRainRead$Sheet;", true), ("RainRead", "readingField", "[I", true), ("RainRead", "readingWet", "[I", true), ("RainRead", "readingCount", "I", false), ("RainRead", "traced", "I", false), ("RainRead", "latestFault", "I", false)]
def m_f5 : List (String × String × String × Bool) := [("RainReadModel", "fault", "I", false), ("RainReadModel", "lines", "I", false), ("RainReadModel", "criers", "I", false), ("RainReadModel", "dropsOf", "[I", true), ("RainReadModel", "fieldOf", "[I", true), ("RainReadModel", "kindOf", "[I", true), ("RainReadModel", "paceOf", "[I", true), ("RainReadModel", "startOf", "[I", true), ("RainReadModel", "coughsOf", "[I", true), ("RainReadModel", "readAt", "I", false), ("RainReadModel", "readLines", "I", false), ("RainReadModel", "readCriers", "I", false), ("RainReadModel", "readDrops", "[I", true), ("RainReadModel", "readField", "[I", true), ("RainReadModel", "readKind", "[I", true), ("RainReadModel", "readPace", "[I", true), ("RainReadModel", "readStart", "[I", true), ("RainReadModel", "readHour", "[I", true), ("RainReadModel", "readBy", "[I", true), ("RainReadModel", "fallsOf", "[I", true), ("RainReadModel", "comesTo", "[I", true), ("RainReadModel", "wetOf", "[I", true), ("RainReadModel", "lostDrops", "I", false), ("RainReadModel", "hadDrops", "[I", true), ("RainReadModel", "hadStart", "[I", true), ("RainReadModel", "hadCoughs", "[I", true), ("RainReadModel", "readings", "I", false), ("RainReadModel", "readingOf", "[I", true), ("RainReadModel", "readingIs", "[I", true), ("RainReadModel", "sheetSize", "[I", true), ("RainReadModel", "sheetLane", "[I", true), ("RainReadModel", "sheet", "[I", true), ("RainReadModel", "hands", "[I", true), ("RainReadModel", "traceNow", "I", false)]
def m_t0 : List FieldType := [.array .int, .array .int, .array .int, .array .int, .array .int, .int, .int, .int]
def m_t1 : List FieldType := [.array .int, .boolean, .int, .int]
def m_t2 : List FieldType := [.int, .int, .array .int, .array .int, .array .int, .array .int, .array .int, .array .int]
def m_t3 : List FieldType := [.array .int, .int, .int]
def m_t4 : List FieldType := [.object "RainRead$Shower", .object "RainRead$Shower", .object "RainRead$Fall", .object "RainRead$TextReader", .array (.object "RainRead$Sheet"), .array .int, .array .int, .int, .int, .int]
def m_t5 : List FieldType := [.int, .int, .int, .array .int, .array .int, .array .int, .array .int, .array .int, .array .int, .int, .int, .int, .array .int, .array .int, .array .int, .array .int, .array .int, .array .int, .array .int, .array .int, .array .int, .array .int, .int, .array .int, .array .int, .array .int, .int, .array .int, .array .int, .array .int, .array .int, .array .int, .array .int, .int]
def m_T0 : u_T := fun k => m_f0.getD k ("", "", "", false)
def m_y0 : Nat → FieldType := fun k => m_t0.getD k .int
def m_T1 : u_T := fun k => m_f1.getD k ("", "", "", false)
def m_y1 : Nat → FieldType := fun k => m_t1.getD k .int
def m_T2 : u_T := fun k => m_f2.getD k ("", "", "", false)
def m_y2 : Nat → FieldType := fun k => m_t2.getD k .int
def m_T3 : u_T := fun k => m_f3.getD k ("", "", "", false)
def m_y3 : Nat → FieldType := fun k => m_t3.getD k .int
def m_T4 : u_T := fun k => m_f4.getD k ("", "", "", false)
def m_y4 : Nat → FieldType := fun k => m_t4.getD k .int
def m_T5 : u_T := fun k => m_f5.getD k ("", "", "", false)
def m_y5 : Nat → FieldType := fun k => m_t5.getD k .int
def m_cl : List vw_C := [("RainRead$Fall", m_T0, 8), ("RainRead$Sheet", m_T1, 4), ("RainRead$Shower", m_T2, 8), ("RainRead$TextReader", m_T3, 3), ("RainRead", m_T4, 10), ("RainReadModel", m_T5, 34)]
def m_fls : List (Nat × Nat × Nat × Nat) := [(0, 27, 0, 5), (0, 31, 0, 6), (0, 34, 0, 7), (0, 21, 0, 3), (0, 24, 0, 4), (0, 43, 2, 0), (0, 55, 2, 1), (0, 9, 0, 0), (0, 15, 0, 1), (0, 18, 0, 2), (0, 62, 2, 2), (0, 68, 2, 3), (1, 9, 1, 0), (1, 21, 1, 1), (1, 25, 1, 2), (1, 29, 1, 3), (2, 30, 2, 0), (2, 34, 2, 1), (2, 27, 2, 7), (2, 9, 2, 2), (2, 15, 2, 3), (2, 18, 2, 4), (2, 21, 2, 5), (2, 24, 2, 6), (3, 15, 1, 0), (3, 9, 3, 0), (3, 26, 3, 1), (3, 30, 3, 2), (3, 60, 2, 2), (3, 63, 2, 3), (3, 66, 2, 0), (3, 73, 2, 4), (3, 76, 2, 5), (3, 79, 2, 6), (3, 82, 2, 1), (4, 49, 4, 9), (4, 37, 4, 4), (4, 31, 4, 3), (4, 18, 4, 1), (4, 12, 4, 0), (4, 79, 4, 7), (4, 82, 2, 1), (4, 24, 4, 2), (4, 91, 2, 2), (4, 94, 2, 3), (4, 97, 0, 0), (4, 100, 0, 1), (4, 103, 0, 2), (4, 109, 2, 4), (4, 112, 2, 5), (4, 115, 2, 6), (4, 118, 2, 0), (4, 145, 0, 3), (4, 148, 0, 4), (4, 169, 1, 0), (4, 182, 0, 5), (4, 185, 0, 6), (4, 188, 0, 7), (4, 213, 2, 7), (4, 41, 4, 5), (4, 45, 4, 6), (4, 249, 1, 1), (4, 259, 1, 2), (4, 280, 4, 8), (5, 87, 5, 0), (5, 95, 5, 1), (5, 102, 5, 2), (5, 109, 5, 9), (5, 79, 5, 31), (5, 116, 5, 10), (5, 28, 5, 12), (5, 31, 5, 13), (5, 123, 5, 11), (5, 34, 5, 14), (5, 37, 5, 15), (5, 40, 5, 16), (5, 73, 5, 29), (5, 76, 5, 30), (5, 7, 5, 3), (5, 13, 5, 4), (5, 16, 5, 5), (5, 19, 5, 6), (5, 22, 5, 7), (5, 25, 5, 8), (5, 157, 5, 26), (5, 43, 5, 17), (5, 46, 5, 18), (5, 166, 5, 22), (5, 52, 5, 20), (5, 55, 5, 21), (5, 49, 5, 19), (5, 58, 5, 23), (5, 61, 5, 24), (5, 64, 5, 25), (5, 67, 5, 27), (5, 70, 5, 28), (5, 82, 5, 32), (5, 290, 5, 33)]
def m_flp : List Nat := [150, 152, 154, 146, 148, 90, 95, 140, 142, 144, 100, 104, 196, 199, 201, 203, 89, 93, 114, 97, 101, 105, 108, 111, 197, 179, 180, 181, 99, 103, 91, 107, 110, 113, 96, 222, 217, 216, 214, 213, 220, 94, 215, 98, 102, 141, 143, 145, 106, 109, 112, 92, 147, 149, 198, 151, 153, 155, 115, 218, 219, 200, 202, 221, 627, 628, 629, 636, 658, 637, 639, 640, 638, 641, 642, 643, 656, 657, 630, 631, 632, 633, 634, 635, 653, 644, 645, 649, 647, 648, 646, 650, 651, 652, 654, 655, 659, 660]
def m_mls : List (Nat × Nat × Nat) := [(0, 37, 167), (0, 48, 1), (0, 52, 2), (0, 58, 13), (0, 65, 14), (0, 71, 18), (1, 15, 167), (2, 37, 167), (2, 49, 168), (2, 55, 166), (2, 61, 15), (2, 65, 16), (3, 33, 11), (3, 38, 23), (3, 42, 27), (3, 46, 26), (3, 49, 24), (3, 53, 25), (3, 56, 29), (3, 69, 28), (4, 53, 87), (4, 57, 88), (4, 60, 7), (4, 64, 80), (4, 67, 9), (4, 71, 22), (4, 75, 12), (4, 85, 83), (4, 88, 0), (4, 106, 84), (4, 121, 3), (4, 125, 13), (4, 128, 89), (4, 131, 86), (4, 134, 81), (4, 138, 16), (4, 142, 15), (4, 151, 43), (4, 154, 82), (4, 158, 39), (4, 162, 41), (4, 166, 42), (4, 172, 40), (4, 175, 21), (4, 178, 4), (4, 191, 19), (4, 194, 20), (4, 198, 46), (4, 201, 5), (4, 204, 166), (4, 209, 49), (4, 216, 51), (4, 220, 85), (4, 223, 53), (4, 227, 54), (4, 230, 55), (4, 234, 61), (4, 238, 62), (4, 243, 64), (4, 246, 6), (4, 253, 8), (4, 256, 10), (4, 268, 71), (4, 271, 72), (4, 274, 73), (4, 277, 75), (4, 283, 17), (5, 91, 91), (5, 98, 90), (5, 112, 101), (5, 119, 102), (5, 126, 103), (5, 130, 104), (5, 133, 95), (5, 137, 157), (5, 141, 151), (5, 145, 94), (5, 150, 106), (5, 154, 105), (5, 160, 108), (5, 163, 111), (5, 169, 109), (5, 173, 110), (5, 176, 112), (5, 180, 97), (5, 183, 113), (5, 186, 98), (5, 191, 99), (5, 194, 100), (5, 197, 121), (5, 200, 124), (5, 205, 119), (5, 208, 120), (5, 211, 127), (5, 214, 114), (5, 218, 115), (5, 221, 116), (5, 232, 126), (5, 235, 129), (5, 238, 128), (5, 242, 130), (5, 247, 132), (5, 250, 133), (5, 253, 134), (5, 260, 92), (5, 263, 138), (5, 266, 140), (5, 269, 142), (5, 275, 146), (5, 279, 93), (5, 283, 154), (5, 286, 96), (5, 293, 159), (9, 13, 30), (9, 17, 107), (9, 18, 31), (9, 22, 117), (9, 23, 32), (9, 26, 118), (9, 27, 33), (9, 30, 119), (9, 31, 34), (9, 34, 120), (9, 35, 35), (9, 38, 122), (9, 39, 36), (9, 42, 123), (9, 43, 37), (9, 47, 125), (9, 48, 38), (9, 52, 131), (9, 53, 44), (9, 56, 135), (9, 57, 45), (9, 60, 136), (9, 61, 47), (9, 64, 137), (9, 65, 48), (9, 68, 139), (9, 69, 50), (9, 73, 141), (9, 74, 52), (9, 77, 143), (9, 78, 56), (9, 81, 144), (9, 82, 57), (9, 85, 145), (9, 86, 58), (9, 89, 147), (9, 90, 59), (9, 93, 148), (9, 94, 60), (9, 97, 149), (9, 98, 63), (9, 102, 150), (9, 103, 65), (9, 106, 152), (9, 107, 66), (9, 110, 153), (9, 111, 67), (9, 114, 155), (9, 115, 68), (9, 118, 156), (9, 119, 69), (9, 122, 158), (9, 123, 70), (9, 126, 160), (9, 127, 74), (9, 130, 161), (9, 131, 76), (9, 134, 162), (9, 135, 77), (9, 139, 163), (9, 140, 78), (9, 143, 164), (9, 144, 79), (9, 147, 165)]
def m_mlp : List Nat := [325, 326, 334, 330, 338, 345, 550, 277, 342, 620, 349, 431, 273, 280, 284, 288, 292, 300, 296, 304, 248, 251, 254, 258, 262, 266, 308, 317, 321, 357, 361, 365, 370, 381, 384, 395, 399, 412, 391, 415, 423, 432, 419, 427, 436, 444, 448, 452, 464, 472, 478, 486, 388, 494, 502, 498, 518, 522, 539, 546, 559, 563, 580, 588, 592, 584, 616, 977, 738, 761, 769, 765, 773, 750, 754, 734, 741, 746, 757, 793, 805, 789, 797, 801, 781, 785, 813, 830, 833, 837, 849, 877, 878, 873, 879, 883, 887, 861, 865, 869, 891, 900, 904, 908, 926, 929, 937, 944, 961, 981, 996, 1004, 1016, 244, 730, 313, 777, 353, 809, 366, 817, 373, 822, 377, 826, 400, 841, 404, 845, 408, 853, 440, 895, 456, 912, 460, 916, 468, 920, 482, 933, 490, 940, 506, 948, 510, 953, 514, 957, 526, 965, 530, 969, 534, 973, 542, 984, 551, 988, 555, 992, 567, 1000, 571, 1008, 576, 1012, 596, 1020, 600, 1024, 604, 1028, 608, 1032, 612, 1036]
def m_acs : List (Nat × Nat) := [(2, 43), (3, 20), (4, 262)]
def m_acp : List Nat := [312, 270, 575]
def m_cos : List (Nat × Nat × Int32) := [(6, 265, 1431655765), (6, 266, 858993459), (6, 267, 252645135)]
def m_cop : List Nat := [475, 476, 477]
def m_los : List (Nat × Nat × Int64) := [(4, 241, (-9223372036854775808)), (5, 85, (-9223372036854775808)), (5, 105, 3), (5, 107, 5), (5, 148, 2), (5, 189, 9), (5, 203, 12), (5, 224, 20), (5, 226, 4), (5, 228, 10), (5, 230, 13), (5, 245, (-1)), (5, 256, 15), (5, 258, 99), (5, 273, 120)]
def m_lop : List Nat := [538, 980, 737, 836, 745, 821, 864, 857, 858, 859, 860, 899, 924, 925, 952]
def m_ins : List Nat := [0, 1, 2, 3, 4, 5, 6, 7, 8, 9, 10, 11, 12, 13, 14, 15, 16, 17, 18, 19, 20, 21, 22, 23, 24, 25, 26, 27, 28, 29, 30, 31, 32, 33, 34, 35, 36, 37, 38, 39, 40, 41, 42, 44, 45, 46, 47, 48, 49, 50, 51, 52, 53, 54, 55, 56, 57, 58, 59, 60, 61, 62, 63, 65, 66, 67, 68, 69, 70, 71, 72, 73, 74, 75, 76, 77, 78, 79, 80, 81, 82, 83, 84, 94, 95, 96, 97, 98, 101, 102, 103, 104, 105, 106, 107, 108, 109, 110, 111, 112, 113, 114, 115, 116, 117, 118, 119, 120, 121, 122, 123, 124, 125, 127, 128, 129, 130, 131, 132, 133, 134, 135, 136, 137, 138, 139, 141, 142, 143, 144, 145, 146, 147, 148, 149, 150, 152, 153, 154, 155, 156, 158, 159, 160, 161, 162, 163, 164, 165]
def m_sts : List Nat := [43, 64, 85, 86, 87, 88, 89, 90, 91, 92, 93, 99, 100, 126, 140, 151, 157, 166, 167, 168]
end
section
/-! ===== what a program decides of the tables: each entry is what the bytes say; each word stands in the tables ===== -/
def m_fin4 (j : Nat) : Fin 4 := Fin.ofNat 4 j
def m_is (b : ByteArray) (pc : Nat) (i : Instr) (n nx : Nat) : Bool := decide (decode b pc = .ok (i, n)) && decide (nx = pc + n)
def m_ld (b : ByteArray) (pc j k nx : Nat) (f : Fin 4 → Instr) (g : Nat → Instr) : Bool := match k with
  | 0 => m_is b pc (f (m_fin4 j)) 1 nx && decide (j < 4)
  | _ => m_is b pc (g j) 2 nx
def m_bi (k : Nat) : Instr := match k with
  | 0 => .iadd
  | 1 => .isub
  | 2 => .imul
  | 3 => .iand
  | 4 => .ior
  | 5 => .ixor
  | 6 => .ishl
  | 7 => .ishr
  | _ => .iushr
def m_lb (k : Nat) : Instr := match k with
  | 0 => .ladd
  | 1 => .lsub
  | _ => .lmul
def m_i1 (k : Nat) (n : Int) : Instr := match k with
  | 0 => .ifCond .eq n
  | 1 => .ifCond .ne n
  | 2 => .ifCond .lt n
  | 3 => .ifCond .ge n
  | 4 => .ifCond .gt n
  | _ => .ifCond .le n
def m_i2 (k : Nat) (n : Int) : Instr := match k with
  | 0 => .if_icmp .eq n
  | 1 => .if_icmp .ne n
  | 2 => .if_icmp .lt n
  | 3 => .if_icmp .ge n
  | 4 => .if_icmp .gt n
  | _ => .if_icmp .le n
def m_to (pc : Nat) (n : Int) (j : Nat) : Bool := decide ((pc : Int) + n = (j : Int))
/-- a field: its link stands among the links; its place is one that there is; whether it is final, boolean -/
def m_fk (o j ci k : Nat) : Bool := decide ((o, j, ci, k) ∈ m_fls)
def m_fi (ci k : Nat) (ty : FieldType) : Bool := match m_cl[ci]? with
  | some (_, T, N) => decide (k < N) && decide ((T k).2.2.2 = false) && decide (parseFieldDescriptor (T k).2.2.1 = some ty)
  | none => false
def m_fn (ci k : Nat) : Bool := match m_cl[ci]? with
  | some (_, _, N) => decide (k < N)
  | none => false
def m_ck (b : ByteArray) (o : Nat) (e : m_E) : Bool := match e with
  | (pc, nx, op, j, k, n, c, w) => match op with
    | 0 => match k with
      | 0 => m_is b pc (.iconst n) 1 nx && decide (Int32.ofInt n = c)
      | 1 => m_is b pc (.bipush n) 2 nx && decide ((Int8.ofInt n).toInt32 = c)
      | 2 => m_is b pc (.sipush n) 3 nx && decide ((Int16.ofInt n).toInt32 = c)
      | _ => m_is b pc (.ldc_w j) 3 nx && decide ((o, j, c) ∈ m_cos)
    | 1 => match k with
      | 0 => m_is b pc (.lconst 0) 1 nx && decide (w = 0)
      | 1 => m_is b pc (.lconst 1) 1 nx && decide (w = 1)
      | _ => m_is b pc (.ldc2_w j) 3 nx && decide ((o, j, w) ∈ m_los)
    | 2 => m_ld b pc j k nx .iload_n .iload
    | 3 => m_ld b pc j k nx .lload_n .lload
    | 4 => m_ld b pc j k nx .aload_n .aload
    | 5 => m_ld b pc j k nx .istore_n .istore
    | 6 => m_ld b pc j k nx .lstore_n .lstore
    | 7 => m_ld b pc j k nx .astore_n .astore
    | 8 => m_is b pc (.iinc j n) 3 nx && decide (Int32.ofInt n = c)
    | 9 => m_is b pc (m_bi k) 1 nx
    | 10 => m_is b pc (m_lb k) 1 nx
    | 11 => m_is b pc .i2l 1 nx
    | 12 => m_is b pc .i2b 1 nx
    | 13 => m_is b pc .i2s 1 nx
    | 14 => m_is b pc .lcmp 1 nx
    | 15 => m_is b pc .dup 1 nx
    | 16 => m_is b pc .dup2 1 nx
    | 17 => m_is b pc (.getfield j) 3 nx && m_fk o j n.toNat k && m_fn n.toNat k
    | 18 => m_is b pc (.putfield j) 3 nx && m_fk o j n.toNat k && m_fi n.toNat k .int
    | 19 => m_is b pc (.goto n) 3 nx && m_to pc n j
    | 20 => m_is b pc (m_i1 k n) 3 nx && m_to pc n j
    | 21 => m_is b pc (m_i2 k n) 3 nx && m_to pc n j
    | 30 => m_is b pc .iaload 1 nx
    | 31 => m_is b pc .iastore 1 nx
    | 32 => m_is b pc .aaload 1 nx
    | 33 => m_is b pc .arraylength 1 nx
    | 34 => m_is b pc .idiv 1 nx
    | 35 => m_is b pc .irem 1 nx
    | 36 => m_is b pc .ldiv 1 nx
    | 37 => m_is b pc .lrem 1 nx
    | 38 => m_is b pc (.putfield j) 3 nx && m_fk o j n.toNat k && m_fi n.toNat k .boolean
    | 39 => m_is b pc (.invokestatic j) 3 nx && decide ((o, j) ∈ m_acs)
    | 40 => m_is b pc (.invokevirtual j) 3 nx && decide ((o, j, k) ∈ m_mls) && decide (k < 169) && decide ((m_M k).2.2.2.2.2.2.1 = n.toNat % 16) && decide ((m_M k).1 = n.toNat / 16) && decide (k ∈ m_ins)
    | 41 => m_is b pc (.invokestatic j) 3 nx && decide ((o, j, k) ∈ m_mls) && decide (k < 169) && decide ((m_M k).2.2.2.2.2.2.1 = n.toNat) && decide (k ∈ m_sts)
    | 50 => m_is b pc .return_ 1 nx
    | 51 => m_is b pc .ireturn 1 nx
    | 52 => m_is b pc .lreturn 1 nx
    | 60 => match decode b pc with
      | .ok (.tableswitch d lo hi offs, _) => m_to pc d j && decide (hi = lo + ((m_sws.getD k []).length : Int) - 1) && (m_sws.getD k []).zipIdx.all (fun q => decide (q.1.1.toInt = lo + (q.2 : Int)) && (match offs[q.2]? with
        | some off => m_to pc off q.1.2
        | none => false))
      | _ => false
    | 61 => match decode b pc with
      | .ok (.lookupswitch d ps, _) => m_to pc d j && (ps.toList.zip (ps.toList.drop 1)).all (fun (a, next) => a.1 < next.1) && decide (ps.toList.map (fun q => (q.1, (pc : Int) + q.2)) = (m_sws.getD k []).map (fun q => (q.1.toInt, (q.2 : Int))))
      | _ => false
    | _ => false
def m_ckR (o : Nat) (y : MethodName) (mx : Nat) (rt : Option FieldType) (rk np : Nat) : Bool := decide (mx ≤ 16) && plainFor y && decide (y.cls = m_cn o) && decide (o < 10) && decide (y.cls ≠ "java/lang/invoke/MethodHandle") && decide (y.cls ≠ "java/lang/invoke/VarHandle") && decide ((parseMethodDescriptor y.desc).map (fun d => d.parameters.length) = some np)
    && (match rk with
      | 0 => decide (rt = none)
      | 1 => decide (rt = some .int)
      | 2 => decide (rt = some .boolean)
      | _ => decide (rt = some .long))
def m_ckM (M : m_Me) : Bool := match M with
  | (o, y, b, mx, rt, rk, np, _, tb) => tb.all (m_ck b o) && m_ckR o y mx rt rk np
theorem m_ckM_of {o : Nat} {y : MethodName} {b : ByteArray} {mx : Nat} {rt : Option FieldType} {rk np z : Nat} {tb : List m_E} (h : tb.all (m_ck b o) = true) (g : m_ckR o y mx rt rk np = true) : m_ckM (o, y, b, mx, rt, rk, np, z, tb) = true := by
  show (tb.all (m_ck b o) && m_ckR o y mx rt rk np) = true
  rw [h, g]
  rfl
end
section
set_option maxRecDepth 100000 in
theorem ck_X0_workOut : m_ckM M_X0_workOut = true := by decide +kernel
set_option maxRecDepth 100000 in
theorem ck_X0_findReader : m_ckM M_X0_findReader = true := by decide +kernel
set_option maxRecDepth 100000 in
theorem ck_X0_bringDown : m_ckM M_X0_bringDown = true := by decide +kernel
set_option maxRecDepth 100000 in
theorem ck_X0_linesBy : m_ckM M_X0_linesBy = true := by decide +kernel
set_option maxRecDepth 100000 in
theorem ck_X0_wetOfAll : m_ckM M_X0_wetOfAll = true := by decide +kernel
set_option maxRecDepth 100000 in
theorem ck_X0_wetFields : m_ckM M_X0_wetFields = true := by decide +kernel
set_option maxRecDepth 100000 in
theorem ck_X1_renew : m_ckM M_X1_renew = true := by decide +kernel
set_option maxRecDepth 100000 in
theorem ck_X1_faultOfTaking : m_ckM M_X1_faultOfTaking = true := by decide +kernel
set_option maxRecDepth 100000 in
theorem ck_X1_hasCell : m_ckM M_X1_hasCell = true := by decide +kernel
set_option maxRecDepth 100000 in
theorem ck_X1_hasCells : m_ckM M_X1_hasCells = true := by decide +kernel
set_option maxRecDepth 100000 in
theorem ck_X1_cut : m_ckM M_X1_cut = true := by decide +kernel
set_option maxRecDepth 100000 in
theorem ck_X2_clear : m_ckM M_X2_clear = true := by decide +kernel
set_option maxRecDepth 100000 in
theorem ck_X2_become : m_ckM M_X2_become = true := by decide +kernel
set_option maxRecDepth 100000 in
theorem ck_X2_hourOfReading : m_ckM M_X2_hourOfReading = true := by decide +kernel
set_option maxRecDepth 100000 in
theorem ck_X2_given : m_ckM M_X2_given = true := by decide +kernel
set_option maxRecDepth 100000 in
theorem ck_X2_coughs : m_ckM M_X2_coughs = true := by decide +kernel
set_option maxRecDepth 100000 in
theorem ck_X2_turnCough : m_ckM M_X2_turnCough = true := by decide +kernel
set_option maxRecDepth 100000 in
theorem ck_X2_coughCount : m_ckM M_X2_coughCount = true := by decide +kernel
set_option maxRecDepth 100000 in
theorem ck_X2_goesTo : m_ckM M_X2_goesTo = true := by decide +kernel
set_option maxRecDepth 100000 in
theorem ck_X2_beginnings : m_ckM M_X2_beginnings = true := by decide +kernel
set_option maxRecDepth 100000 in
theorem ck_X2_beginBy : m_ckM M_X2_beginBy = true := by decide +kernel
set_option maxRecDepth 100000 in
theorem ck_X2_does : m_ckM M_X2_does = true := by decide +kernel
set_option maxRecDepth 100000 in
theorem ck_X3_firstFault : m_ckM M_X3_firstFault = true := by decide +kernel
set_option maxRecDepth 100000 in
theorem ck_X3_isText : m_ckM M_X3_isText = true := by decide +kernel
set_option maxRecDepth 100000 in
theorem ck_X3_takesLine : m_ckM M_X3_takesLine = true := by decide +kernel
set_option maxRecDepth 100000 in
theorem ck_X3_takesCrier : m_ckM M_X3_takesCrier = true := by decide +kernel
set_option maxRecDepth 100000 in
theorem ck_X3_isAt : m_ckM M_X3_isAt = true := by decide +kernel
set_option maxRecDepth 100000 in
theorem ck_X3_takes : m_ckM M_X3_takes = true := by decide +kernel
set_option maxRecDepth 100000 in
theorem ck_X3_takenKind : m_ckM M_X3_takenKind = true := by decide +kernel
set_option maxRecDepth 100000 in
theorem ck_X3_takenDigit : m_ckM M_X3_takenDigit = true := by decide +kernel
set_option maxRecDepth 100000 in
theorem ck_X4_shower : m_ckM M_X4_shower = true := by decide +kernel
set_option maxRecDepth 100000 in
theorem ck_X4_ofLine : m_ckM M_X4_ofLine = true := by decide +kernel
set_option maxRecDepth 100000 in
theorem ck_X4_ofCrier : m_ckM M_X4_ofCrier = true := by decide +kernel
set_option maxRecDepth 100000 in
theorem ck_X4_print : m_ckM M_X4_print = true := by decide +kernel
set_option maxRecDepth 100000 in
theorem ck_X4_begin : m_ckM M_X4_begin = true := by decide +kernel
set_option maxRecDepth 100000 in
theorem ck_X4_cough : m_ckM M_X4_cough = true := by decide +kernel
set_option maxRecDepth 100000 in
theorem ck_X4_comes : m_ckM M_X4_comes = true := by decide +kernel
set_option maxRecDepth 100000 in
theorem ck_X4_wet : m_ckM M_X4_wet = true := by decide +kernel
set_option maxRecDepth 100000 in
theorem ck_X4_day : m_ckM M_X4_day = true := by decide +kernel
end
section
set_option maxRecDepth 100000 in
theorem ck_X4_areActs : m_ckM M_X4_areActs = true := by decide +kernel
set_option maxRecDepth 100000 in
theorem ck_X4_isAct : m_ckM M_X4_isAct = true := by decide +kernel
set_option maxRecDepth 100000 in
theorem ck_X4_firstWrong : m_ckM M_X4_firstWrong = true := by decide +kernel
set_option maxRecDepth 100000 in
theorem ck_X4_answerOfDay : m_ckM M_X4_answerOfDay = true := by decide +kernel
set_option maxRecDepth 100000 in
theorem ck_X4_isAskedOfDay : m_ckM M_X4_isAskedOfDay = true := by decide +kernel
set_option maxRecDepth 100000 in
theorem ck_X4_whole : m_ckM M_X4_whole = true := by decide +kernel
set_option maxRecDepth 100000 in
theorem ck_X4_most : m_ckM M_X4_most = true := by decide +kernel
set_option maxRecDepth 100000 in
theorem ck_X4_startIn : m_ckM M_X4_startIn = true := by decide +kernel
set_option maxRecDepth 100000 in
theorem ck_X4_strayed : m_ckM M_X4_strayed = true := by decide +kernel
set_option maxRecDepth 100000 in
theorem ck_X4_saved : m_ckM M_X4_saved = true := by decide +kernel
set_option maxRecDepth 100000 in
theorem ck_X4_savesBy : m_ckM M_X4_savesBy = true := by decide +kernel
set_option maxRecDepth 100000 in
theorem ck_X4_misprint : m_ckM M_X4_misprint = true := by decide +kernel
set_option maxRecDepth 100000 in
theorem ck_X4_isWetBy : m_ckM M_X4_isWetBy = true := by decide +kernel
set_option maxRecDepth 100000 in
theorem ck_X4_rests : m_ckM M_X4_rests = true := by decide +kernel
set_option maxRecDepth 100000 in
theorem ck_X4_painOfFirst : m_ckM M_X4_painOfFirst = true := by decide +kernel
set_option maxRecDepth 100000 in
theorem ck_X4_painOfSecond : m_ckM M_X4_painOfSecond = true := by decide +kernel
set_option maxRecDepth 100000 in
theorem ck_X4_coughInTrial : m_ckM M_X4_coughInTrial = true := by decide +kernel
set_option maxRecDepth 100000 in
theorem ck_X4_reading : m_ckM M_X4_reading = true := by decide +kernel
set_option maxRecDepth 100000 in
theorem ck_X4_back : m_ckM M_X4_back = true := by decide +kernel
set_option maxRecDepth 100000 in
theorem ck_X4_kinds : m_ckM M_X4_kinds = true := by decide +kernel
set_option maxRecDepth 100000 in
theorem ck_X4_paces : m_ckM M_X4_paces = true := by decide +kernel
set_option maxRecDepth 100000 in
theorem ck_X4_starts : m_ckM M_X4_starts = true := by decide +kernel
set_option maxRecDepth 100000 in
theorem ck_X4_fitting : m_ckM M_X4_fitting = true := by decide +kernel
set_option maxRecDepth 100000 in
theorem ck_X4_allReadingsAreSo : m_ckM M_X4_allReadingsAreSo = true := by decide +kernel
set_option maxRecDepth 100000 in
theorem ck_X4_odds : m_ckM M_X4_odds = true := by decide +kernel
set_option maxRecDepth 100000 in
theorem ck_X4_commonPart : m_ckM M_X4_commonPart = true := by decide +kernel
set_option maxRecDepth 100000 in
theorem ck_X4_sheet : m_ckM M_X4_sheet = true := by decide +kernel
set_option maxRecDepth 100000 in
theorem ck_X4_lose : m_ckM M_X4_lose = true := by decide +kernel
set_option maxRecDepth 100000 in
theorem ck_X4_put : m_ckM M_X4_put = true := by decide +kernel
set_option maxRecDepth 100000 in
theorem ck_X4_cell : m_ckM M_X4_cell = true := by decide +kernel
set_option maxRecDepth 100000 in
theorem ck_X4_copy : m_ckM M_X4_copy = true := by decide +kernel
end
section
set_option maxRecDepth 100000 in
theorem ck_X4_tell : m_ckM M_X4_tell = true := by decide +kernel
set_option maxRecDepth 100000 in
theorem ck_X4_plainTelling : m_ckM M_X4_plainTelling = true := by decide +kernel
set_option maxRecDepth 100000 in
theorem ck_X4_mumblingTelling : m_ckM M_X4_mumblingTelling = true := by decide +kernel
set_option maxRecDepth 100000 in
theorem ck_X4_chantingTelling : m_ckM M_X4_chantingTelling = true := by decide +kernel
set_option maxRecDepth 100000 in
theorem ck_X4_bribe : m_ckM M_X4_bribe = true := by decide +kernel
set_option maxRecDepth 100000 in
theorem ck_X4_leave : m_ckM M_X4_leave = true := by decide +kernel
set_option maxRecDepth 100000 in
theorem ck_X4_as : m_ckM M_X4_as = true := by decide +kernel
set_option maxRecDepth 100000 in
theorem ck_X4_trace : m_ckM M_X4_trace = true := by decide +kernel
set_option maxRecDepth 100000 in
theorem ck_X4_fault : m_ckM M_X4_fault = true := by decide +kernel
set_option maxRecDepth 100000 in
theorem ck_X4_many : m_ckM M_X4_many = true := by decide +kernel
set_option maxRecDepth 100000 in
theorem ck_X4_faulted : m_ckM M_X4_faulted = true := by decide +kernel
set_option maxRecDepth 100000 in
theorem ck_X4_refusalOf : m_ckM M_X4_refusalOf = true := by decide +kernel
set_option maxRecDepth 100000 in
theorem ck_X4_hasShower : m_ckM M_X4_hasShower = true := by decide +kernel
set_option maxRecDepth 100000 in
theorem ck_X4_isLine : m_ckM M_X4_isLine = true := by decide +kernel
set_option maxRecDepth 100000 in
theorem ck_X4_isCrier : m_ckM M_X4_isCrier = true := by decide +kernel
set_option maxRecDepth 100000 in
theorem ck_X4_isField : m_ckM M_X4_isField = true := by decide +kernel
set_option maxRecDepth 100000 in
theorem ck_X4_isHour : m_ckM M_X4_isHour = true := by decide +kernel
set_option maxRecDepth 100000 in
theorem ck_X4_isSheet : m_ckM M_X4_isSheet = true := by decide +kernel
set_option maxRecDepth 100000 in
theorem ck_X4_isLane : m_ckM M_X4_isLane = true := by decide +kernel
set_option maxRecDepth 100000 in
theorem ck_X4_isWithin : m_ckM M_X4_isWithin = true := by decide +kernel
set_option maxRecDepth 100000 in
theorem ck_X5_in : m_ckM M_X5_in = true := by decide +kernel
set_option maxRecDepth 100000 in
theorem ck_X5_lost : m_ckM M_X5_lost = true := by decide +kernel
set_option maxRecDepth 100000 in
theorem ck_X5_bits : m_ckM M_X5_bits = true := by decide +kernel
set_option maxRecDepth 100000 in
theorem ck_X5_share : m_ckM M_X5_share = true := by decide +kernel
set_option maxRecDepth 100000 in
theorem ck_X5_refused : m_ckM M_X5_refused = true := by decide +kernel
set_option maxRecDepth 100000 in
theorem ck_X5_failed : m_ckM M_X5_failed = true := by decide +kernel
set_option maxRecDepth 100000 in
theorem ck_X5_failedLong : m_ckM M_X5_failedLong = true := by decide +kernel
set_option maxRecDepth 100000 in
theorem ck_X5_noLine : m_ckM M_X5_noLine = true := by decide +kernel
set_option maxRecDepth 100000 in
theorem ck_X5_noCrier : m_ckM M_X5_noCrier = true := by decide +kernel
set_option maxRecDepth 100000 in
theorem ck_X5_noField : m_ckM M_X5_noField = true := by decide +kernel
set_option maxRecDepth 100000 in
theorem ck_X5_isHour : m_ckM M_X5_isHour = true := by decide +kernel
set_option maxRecDepth 100000 in
theorem ck_X5_codeAt : m_ckM M_X5_codeAt = true := by decide +kernel
set_option maxRecDepth 100000 in
theorem ck_X5_figure : m_ckM M_X5_figure = true := by decide +kernel
set_option maxRecDepth 100000 in
theorem ck_X5_readsLine : m_ckM M_X5_readsLine = true := by decide +kernel
set_option maxRecDepth 100000 in
theorem ck_X5_readsCrier : m_ckM M_X5_readsCrier = true := by decide +kernel
set_option maxRecDepth 100000 in
theorem ck_X5_readsShower : m_ckM M_X5_readsShower = true := by decide +kernel
set_option maxRecDepth 100000 in
theorem ck_X5_cellsBarred : m_ckM M_X5_cellsBarred = true := by decide +kernel
set_option maxRecDepth 100000 in
theorem ck_X5_shower : m_ckM M_X5_shower = true := by decide +kernel
set_option maxRecDepth 100000 in
theorem ck_X5_hourBy : m_ckM M_X5_hourBy = true := by decide +kernel
set_option maxRecDepth 100000 in
theorem ck_X5_reads : m_ckM M_X5_reads = true := by decide +kernel
set_option maxRecDepth 100000 in
theorem ck_X5_given : m_ckM M_X5_given = true := by decide +kernel
set_option maxRecDepth 100000 in
theorem ck_X5_coughs : m_ckM M_X5_coughs = true := by decide +kernel
set_option maxRecDepth 100000 in
theorem ck_X5_falls : m_ckM M_X5_falls = true := by decide +kernel
set_option maxRecDepth 100000 in
theorem ck_X5_rains : m_ckM M_X5_rains = true := by decide +kernel
set_option maxRecDepth 100000 in
theorem ck_X5_wetOfAll : m_ckM M_X5_wetOfAll = true := by decide +kernel
set_option maxRecDepth 100000 in
theorem ck_X5_thoseThatHang : m_ckM M_X5_thoseThatHang = true := by decide +kernel
set_option maxRecDepth 100000 in
theorem ck_X5_thoseOfMud : m_ckM M_X5_thoseOfMud = true := by decide +kernel
set_option maxRecDepth 100000 in
theorem ck_X5_ofLine : m_ckM M_X5_ofLine = true := by decide +kernel
set_option maxRecDepth 100000 in
theorem ck_X5_ofCrier : m_ckM M_X5_ofCrier = true := by decide +kernel
end
section
set_option maxRecDepth 100000 in
theorem ck_X5_print : m_ckM M_X5_print = true := by decide +kernel
set_option maxRecDepth 100000 in
theorem ck_X5_begin : m_ckM M_X5_begin = true := by decide +kernel
set_option maxRecDepth 100000 in
theorem ck_X5_coughed : m_ckM M_X5_coughed = true := by decide +kernel
set_option maxRecDepth 100000 in
theorem ck_X5_cough : m_ckM M_X5_cough = true := by decide +kernel
set_option maxRecDepth 100000 in
theorem ck_X5_comes : m_ckM M_X5_comes = true := by decide +kernel
set_option maxRecDepth 100000 in
theorem ck_X5_wetNow : m_ckM M_X5_wetNow = true := by decide +kernel
set_option maxRecDepth 100000 in
theorem ck_X5_wet : m_ckM M_X5_wet = true := by decide +kernel
set_option maxRecDepth 100000 in
theorem ck_X5_isAsTold : m_ckM M_X5_isAsTold = true := by decide +kernel
set_option maxRecDepth 100000 in
theorem ck_X5_doesPair : m_ckM M_X5_doesPair = true := by decide +kernel
set_option maxRecDepth 100000 in
theorem ck_X5_dayOf : m_ckM M_X5_dayOf = true := by decide +kernel
set_option maxRecDepth 100000 in
theorem ck_X5_keeps : m_ckM M_X5_keeps = true := by decide +kernel
set_option maxRecDepth 100000 in
theorem ck_X5_bringsBack : m_ckM M_X5_bringsBack = true := by decide +kernel
set_option maxRecDepth 100000 in
theorem ck_X5_day : m_ckM M_X5_day = true := by decide +kernel
set_option maxRecDepth 100000 in
theorem ck_X5_beginnings : m_ckM M_X5_beginnings = true := by decide +kernel
set_option maxRecDepth 100000 in
theorem ck_X5_begins : m_ckM M_X5_begins = true := by decide +kernel
set_option maxRecDepth 100000 in
theorem ck_X5_startIn : m_ckM M_X5_startIn = true := by decide +kernel
set_option maxRecDepth 100000 in
theorem ck_X5_whole : m_ckM M_X5_whole = true := by decide +kernel
set_option maxRecDepth 100000 in
theorem ck_X5_most : m_ckM M_X5_most = true := by decide +kernel
set_option maxRecDepth 100000 in
theorem ck_X5_strayed : m_ckM M_X5_strayed = true := by decide +kernel
set_option maxRecDepth 100000 in
theorem ck_X5_areSaved : m_ckM M_X5_areSaved = true := by decide +kernel
set_option maxRecDepth 100000 in
theorem ck_X5_saved : m_ckM M_X5_saved = true := by decide +kernel
set_option maxRecDepth 100000 in
theorem ck_X5_apart : m_ckM M_X5_apart = true := by decide +kernel
set_option maxRecDepth 100000 in
theorem ck_X5_misprint : m_ckM M_X5_misprint = true := by decide +kernel
set_option maxRecDepth 100000 in
theorem ck_X5_pain : m_ckM M_X5_pain = true := by decide +kernel
set_option maxRecDepth 100000 in
theorem ck_X5_rests : m_ckM M_X5_rests = true := by decide +kernel
set_option maxRecDepth 100000 in
theorem ck_X5_reading : m_ckM M_X5_reading = true := by decide +kernel
set_option maxRecDepth 100000 in
theorem ck_X5_back : m_ckM M_X5_back = true := by decide +kernel
end
section
set_option maxRecDepth 100000 in
theorem ck_X5_areSo : m_ckM M_X5_areSo = true := by decide +kernel
set_option maxRecDepth 100000 in
theorem ck_X5_kinds : m_ckM M_X5_kinds = true := by decide +kernel
set_option maxRecDepth 100000 in
theorem ck_X5_paces : m_ckM M_X5_paces = true := by decide +kernel
set_option maxRecDepth 100000 in
theorem ck_X5_starts : m_ckM M_X5_starts = true := by decide +kernel
set_option maxRecDepth 100000 in
theorem ck_X5_odds : m_ckM M_X5_odds = true := by decide +kernel
set_option maxRecDepth 100000 in
theorem ck_X5_noSheet : m_ckM M_X5_noSheet = true := by decide +kernel
set_option maxRecDepth 100000 in
theorem ck_X5_sheet : m_ckM M_X5_sheet = true := by decide +kernel
set_option maxRecDepth 100000 in
theorem ck_X5_lose : m_ckM M_X5_lose = true := by decide +kernel
set_option maxRecDepth 100000 in
theorem ck_X5_noCell : m_ckM M_X5_noCell = true := by decide +kernel
set_option maxRecDepth 100000 in
theorem ck_X5_put : m_ckM M_X5_put = true := by decide +kernel
set_option maxRecDepth 100000 in
theorem ck_X5_cell : m_ckM M_X5_cell = true := by decide +kernel
set_option maxRecDepth 100000 in
theorem ck_X5_isBeyond : m_ckM M_X5_isBeyond = true := by decide +kernel
set_option maxRecDepth 100000 in
theorem ck_X5_copy : m_ckM M_X5_copy = true := by decide +kernel
set_option maxRecDepth 100000 in
theorem ck_X5_traced : m_ckM M_X5_traced = true := by decide +kernel
set_option maxRecDepth 100000 in
theorem ck_X5_tell : m_ckM M_X5_tell = true := by decide +kernel
set_option maxRecDepth 100000 in
theorem ck_X5_bribe : m_ckM M_X5_bribe = true := by decide +kernel
set_option maxRecDepth 100000 in
theorem ck_X5_as : m_ckM M_X5_as = true := by decide +kernel
set_option maxRecDepth 100000 in
theorem ck_X5_trace : m_ckM M_X5_trace = true := by decide +kernel
set_option maxRecDepth 100000 in
theorem ck_X5_fault : m_ckM M_X5_fault = true := by decide +kernel
set_option maxRecDepth 100000 in
theorem ck_X5_many : m_ckM M_X5_many = true := by decide +kernel
set_option maxRecDepth 100000 in
theorem ck_J6_bitCount_0f7a4 : m_ckM M_J6_bitCount_0f7a4 = true := by decide +kernel
set_option maxRecDepth 100000 in
theorem ck_J7_fill_53178 : m_ckM M_J7_fill_53178 = true := by decide +kernel
set_option maxRecDepth 100000 in
theorem ck_J9_max_7cf53 : m_ckM M_J9_max_7cf53 = true := by decide +kernel
end
section
set_option maxRecDepth 100000 in
theorem ck_L_0 : t_L_law_0.all (m_ck code 9) = true := by decide +kernel
set_option maxRecDepth 100000 in
theorem ck_L_1 : t_L_law_1.all (m_ck code 9) = true := by decide +kernel
set_option maxRecDepth 100000 in
theorem ck_L_2 : t_L_law_2.all (m_ck code 9) = true := by decide +kernel
set_option maxRecDepth 100000 in
theorem ck_L_3 : t_L_law_3.all (m_ck code 9) = true := by decide +kernel
set_option maxRecDepth 100000 in
theorem ck_L_4 : t_L_law_4.all (m_ck code 9) = true := by decide +kernel
set_option maxRecDepth 100000 in
theorem ck_L_5 : t_L_law_5.all (m_ck code 9) = true := by decide +kernel
set_option maxRecDepth 100000 in
theorem ck_L_6 : t_L_law_6.all (m_ck code 9) = true := by decide +kernel
set_option maxRecDepth 100000 in
theorem ck_L_7 : t_L_law_7.all (m_ck code 9) = true := by decide +kernel
set_option maxRecDepth 100000 in
theorem ck_L_8 : t_L_law_8.all (m_ck code 9) = true := by decide +kernel
set_option maxRecDepth 100000 in
theorem ck_L_9 : t_L_law_9.all (m_ck code 9) = true := by decide +kernel
set_option maxRecDepth 100000 in
theorem ck_L_10 : t_L_law_10.all (m_ck code 9) = true := by decide +kernel
set_option maxRecDepth 100000 in
theorem ck_L_11 : t_L_law_11.all (m_ck code 9) = true := by decide +kernel
set_option maxRecDepth 100000 in
theorem ck_L_12 : t_L_law_12.all (m_ck code 9) = true := by decide +kernel
set_option maxRecDepth 100000 in
theorem ck_L_13 : t_L_law_13.all (m_ck code 9) = true := by decide +kernel
set_option maxRecDepth 100000 in
theorem ck_L_14 : t_L_law_14.all (m_ck code 9) = true := by decide +kernel
set_option maxRecDepth 100000 in
theorem ck_L_15 : t_L_law_15.all (m_ck code 9) = true := by decide +kernel
set_option maxRecDepth 100000 in
theorem ck_L_16 : t_L_law_16.all (m_ck code 9) = true := by decide +kernel
set_option maxRecDepth 100000 in
theorem ck_L_17 : t_L_law_17.all (m_ck code 9) = true := by decide +kernel
set_option maxRecDepth 100000 in
theorem ck_L_18 : t_L_law_18.all (m_ck code 9) = true := by decide +kernel
set_option maxRecDepth 100000 in
theorem ck_L_19 : t_L_law_19.all (m_ck code 9) = true := by decide +kernel
set_option maxRecDepth 100000 in
theorem ck_L_20 : t_L_law_20.all (m_ck code 9) = true := by decide +kernel
set_option maxRecDepth 100000 in
theorem ck_L_21 : t_L_law_21.all (m_ck code 9) = true := by decide +kernel
theorem ck_L_law : m_ckM M_L_law = true := m_ckM_of (by unfold t_L_law; simp only [List.all_append, Bool.and_eq_true]; exact ⟨ck_L_0, ck_L_1, ck_L_2, ck_L_3, ck_L_4, ck_L_5, ck_L_6, ck_L_7, ck_L_8, ck_L_9, ck_L_10, ck_L_11, ck_L_12, ck_L_13, ck_L_14, ck_L_15, ck_L_16, ck_L_17, ck_L_18, ck_L_19, ck_L_20, ck_L_21⟩) (by decide +kernel)
set_option maxRecDepth 100000 in
theorem ck_all : ∀ M ∈ m_ms, m_ckM M = true := List.forall_mem_cons.mpr ⟨ck_X0_workOut, List.forall_mem_cons.mpr ⟨ck_X0_findReader, List.forall_mem_cons.mpr ⟨ck_X0_bringDown, List.forall_mem_cons.mpr ⟨ck_X0_linesBy, List.forall_mem_cons.mpr ⟨ck_X0_wetOfAll, List.forall_mem_cons.mpr ⟨ck_X0_wetFields, List.forall_mem_cons.mpr ⟨ck_X1_renew, List.forall_mem_cons.mpr ⟨ck_X1_faultOfTaking, List.forall_mem_cons.mpr ⟨ck_X1_hasCell, List.forall_mem_cons.mpr ⟨ck_X1_hasCells, List.forall_mem_cons.mpr ⟨ck_X1_cut, List.forall_mem_cons.mpr ⟨ck_X2_clear, List.forall_mem_cons.mpr ⟨ck_X2_become, List.forall_mem_cons.mpr ⟨ck_X2_hourOfReading, List.forall_mem_cons.mpr ⟨ck_X2_given, List.forall_mem_cons.mpr ⟨ck_X2_coughs, List.forall_mem_cons.mpr ⟨ck_X2_turnCough, List.forall_mem_cons.mpr ⟨ck_X2_coughCount, List.forall_mem_cons.mpr ⟨ck_X2_goesTo, List.forall_mem_cons.mpr ⟨ck_X2_beginnings, List.forall_mem_cons.mpr ⟨ck_X2_beginBy, List.forall_mem_cons.mpr ⟨ck_X2_does, List.forall_mem_cons.mpr ⟨ck_X3_firstFault, List.forall_mem_cons.mpr ⟨ck_X3_isText, List.forall_mem_cons.mpr ⟨ck_X3_takesLine, List.forall_mem_cons.mpr ⟨ck_X3_takesCrier, List.forall_mem_cons.mpr ⟨ck_X3_isAt, List.forall_mem_cons.mpr ⟨ck_X3_takes, List.forall_mem_cons.mpr ⟨ck_X3_takenKind, List.forall_mem_cons.mpr ⟨ck_X3_takenDigit, List.forall_mem_cons.mpr ⟨ck_X4_shower, List.forall_mem_cons.mpr ⟨ck_X4_ofLine, List.forall_mem_cons.mpr ⟨ck_X4_ofCrier, List.forall_mem_cons.mpr ⟨ck_X4_print, List.forall_mem_cons.mpr ⟨ck_X4_begin, List.forall_mem_cons.mpr ⟨ck_X4_cough, List.forall_mem_cons.mpr ⟨ck_X4_comes, List.forall_mem_cons.mpr ⟨ck_X4_wet, List.forall_mem_cons.mpr ⟨ck_X4_day, List.forall_mem_cons.mpr ⟨ck_X4_areActs, List.forall_mem_cons.mpr ⟨ck_X4_isAct, List.forall_mem_cons.mpr ⟨ck_X4_firstWrong, List.forall_mem_cons.mpr ⟨ck_X4_answerOfDay, List.forall_mem_cons.mpr ⟨ck_X4_isAskedOfDay, List.forall_mem_cons.mpr ⟨ck_X4_whole, List.forall_mem_cons.mpr ⟨ck_X4_most, List.forall_mem_cons.mpr ⟨ck_X4_startIn, List.forall_mem_cons.mpr ⟨ck_X4_strayed, List.forall_mem_cons.mpr ⟨ck_X4_saved, List.forall_mem_cons.mpr ⟨ck_X4_savesBy, List.forall_mem_cons.mpr ⟨ck_X4_misprint, List.forall_mem_cons.mpr ⟨ck_X4_isWetBy, List.forall_mem_cons.mpr ⟨ck_X4_rests, List.forall_mem_cons.mpr ⟨ck_X4_painOfFirst, List.forall_mem_cons.mpr ⟨ck_X4_painOfSecond, List.forall_mem_cons.mpr ⟨ck_X4_coughInTrial, List.forall_mem_cons.mpr ⟨ck_X4_reading, List.forall_mem_cons.mpr ⟨ck_X4_back, List.forall_mem_cons.mpr ⟨ck_X4_kinds, List.forall_mem_cons.mpr ⟨ck_X4_paces, List.forall_mem_cons.mpr ⟨ck_X4_starts, List.forall_mem_cons.mpr ⟨ck_X4_fitting, List.forall_mem_cons.mpr ⟨ck_X4_allReadingsAreSo, List.forall_mem_cons.mpr ⟨ck_X4_odds, List.forall_mem_cons.mpr ⟨ck_X4_commonPart, List.forall_mem_cons.mpr ⟨ck_X4_sheet, List.forall_mem_cons.mpr ⟨ck_X4_lose, List.forall_mem_cons.mpr ⟨ck_X4_put, List.forall_mem_cons.mpr ⟨ck_X4_cell, List.forall_mem_cons.mpr ⟨ck_X4_copy, List.forall_mem_cons.mpr ⟨ck_X4_tell, List.forall_mem_cons.mpr ⟨ck_X4_plainTelling, List.forall_mem_cons.mpr ⟨ck_X4_mumblingTelling, List.forall_mem_cons.mpr ⟨ck_X4_chantingTelling, List.forall_mem_cons.mpr ⟨ck_X4_bribe, List.forall_mem_cons.mpr ⟨ck_X4_leave, List.forall_mem_cons.mpr ⟨ck_X4_as, List.forall_mem_cons.mpr ⟨ck_X4_trace, List.forall_mem_cons.mpr ⟨ck_X4_fault, List.forall_mem_cons.mpr ⟨ck_X4_many, List.forall_mem_cons.mpr ⟨ck_X4_faulted, List.forall_mem_cons.mpr ⟨ck_X4_refusalOf, List.forall_mem_cons.mpr ⟨ck_X4_hasShower, List.forall_mem_cons.mpr ⟨ck_X4_isLine, List.forall_mem_cons.mpr ⟨ck_X4_isCrier, List.forall_mem_cons.mpr ⟨ck_X4_isField, List.forall_mem_cons.mpr ⟨ck_X4_isHour, List.forall_mem_cons.mpr ⟨ck_X4_isSheet, List.forall_mem_cons.mpr ⟨ck_X4_isLane, List.forall_mem_cons.mpr ⟨ck_X4_isWithin, List.forall_mem_cons.mpr ⟨ck_X5_in, List.forall_mem_cons.mpr ⟨ck_X5_lost, List.forall_mem_cons.mpr ⟨ck_X5_bits, List.forall_mem_cons.mpr ⟨ck_X5_share, List.forall_mem_cons.mpr ⟨ck_X5_refused, List.forall_mem_cons.mpr ⟨ck_X5_failed, List.forall_mem_cons.mpr ⟨ck_X5_failedLong, List.forall_mem_cons.mpr ⟨ck_X5_noLine, List.forall_mem_cons.mpr ⟨ck_X5_noCrier, List.forall_mem_cons.mpr ⟨ck_X5_noField, List.forall_mem_cons.mpr ⟨ck_X5_isHour, List.forall_mem_cons.mpr ⟨ck_X5_codeAt, List.forall_mem_cons.mpr ⟨ck_X5_figure, List.forall_mem_cons.mpr ⟨ck_X5_readsLine, List.forall_mem_cons.mpr ⟨ck_X5_readsCrier, List.forall_mem_cons.mpr ⟨ck_X5_readsShower, List.forall_mem_cons.mpr ⟨ck_X5_cellsBarred, List.forall_mem_cons.mpr ⟨ck_X5_shower, List.forall_mem_cons.mpr ⟨ck_X5_hourBy, List.forall_mem_cons.mpr ⟨ck_X5_reads, List.forall_mem_cons.mpr ⟨ck_X5_given, List.forall_mem_cons.mpr ⟨ck_X5_coughs, List.forall_mem_cons.mpr ⟨ck_X5_falls, List.forall_mem_cons.mpr ⟨ck_X5_rains, List.forall_mem_cons.mpr ⟨ck_X5_wetOfAll, List.forall_mem_cons.mpr ⟨ck_X5_thoseThatHang, List.forall_mem_cons.mpr ⟨ck_X5_thoseOfMud, List.forall_mem_cons.mpr ⟨ck_X5_ofLine, List.forall_mem_cons.mpr ⟨ck_X5_ofCrier, List.forall_mem_cons.mpr ⟨ck_X5_print, List.forall_mem_cons.mpr ⟨ck_X5_begin, List.forall_mem_cons.mpr ⟨ck_X5_coughed, List.forall_mem_cons.mpr ⟨ck_X5_cough, List.forall_mem_cons.mpr ⟨ck_X5_comes, List.forall_mem_cons.mpr ⟨ck_X5_wetNow, List.forall_mem_cons.mpr ⟨ck_X5_wet, List.forall_mem_cons.mpr ⟨ck_X5_isAsTold, List.forall_mem_cons.mpr ⟨ck_X5_doesPair, List.forall_mem_cons.mpr ⟨ck_X5_dayOf, List.forall_mem_cons.mpr ⟨ck_X5_keeps, List.forall_mem_cons.mpr ⟨ck_X5_bringsBack, List.forall_mem_cons.mpr ⟨ck_X5_day, List.forall_mem_cons.mpr ⟨ck_X5_beginnings, List.forall_mem_cons.mpr ⟨ck_X5_begins, List.forall_mem_cons.mpr ⟨ck_X5_startIn, List.forall_mem_cons.mpr ⟨ck_X5_whole, List.forall_mem_cons.mpr ⟨ck_X5_most, List.forall_mem_cons.mpr ⟨ck_X5_strayed, List.forall_mem_cons.mpr ⟨ck_X5_areSaved, List.forall_mem_cons.mpr ⟨ck_X5_saved, List.forall_mem_cons.mpr ⟨ck_X5_apart, List.forall_mem_cons.mpr ⟨ck_X5_misprint, List.forall_mem_cons.mpr ⟨ck_X5_pain, List.forall_mem_cons.mpr ⟨ck_X5_rests, List.forall_mem_cons.mpr ⟨ck_X5_reading, List.forall_mem_cons.mpr ⟨ck_X5_back, List.forall_mem_cons.mpr ⟨ck_X5_areSo, List.forall_mem_cons.mpr ⟨ck_X5_kinds, List.forall_mem_cons.mpr ⟨ck_X5_paces, List.forall_mem_cons.mpr ⟨ck_X5_starts, List.forall_mem_cons.mpr ⟨ck_X5_odds, List.forall_mem_cons.mpr ⟨ck_X5_noSheet, List.forall_mem_cons.mpr ⟨ck_X5_sheet, List.forall_mem_cons.mpr ⟨ck_X5_lose, List.forall_mem_cons.mpr ⟨ck_X5_noCell, List.forall_mem_cons.mpr ⟨ck_X5_put, List.forall_mem_cons.mpr ⟨ck_X5_cell, List.forall_mem_cons.mpr ⟨ck_X5_isBeyond, List.forall_mem_cons.mpr ⟨ck_X5_copy, List.forall_mem_cons.mpr ⟨ck_X5_traced, List.forall_mem_cons.mpr ⟨ck_X5_tell, List.forall_mem_cons.mpr ⟨ck_X5_bribe, List.forall_mem_cons.mpr ⟨ck_X5_as, List.forall_mem_cons.mpr ⟨ck_X5_trace, List.forall_mem_cons.mpr ⟨ck_X5_fault, List.forall_mem_cons.mpr ⟨ck_X5_many, List.forall_mem_cons.mpr ⟨ck_J6_bitCount_0f7a4, List.forall_mem_cons.mpr ⟨ck_J7_fill_53178, List.forall_mem_cons.mpr ⟨ck_J9_max_7cf53, List.forall_mem_cons.mpr ⟨ck_L_law, fun _ h => absurd h List.not_mem_nil⟩⟩⟩⟩⟩⟩⟩⟩⟩⟩⟩⟩⟩⟩⟩⟩⟩⟩⟩⟩⟩⟩⟩⟩⟩⟩⟩⟩⟩⟩⟩⟩⟩⟩⟩⟩⟩⟩⟩⟩⟩⟩⟩⟩⟩⟩⟩⟩⟩⟩⟩⟩⟩⟩⟩⟩⟩⟩⟩⟩⟩⟩⟩⟩⟩⟩⟩⟩⟩⟩⟩⟩⟩⟩⟩⟩⟩⟩⟩⟩⟩⟩⟩⟩⟩⟩⟩⟩⟩⟩⟩⟩⟩⟩⟩⟩⟩⟩⟩⟩⟩⟩⟩⟩⟩⟩⟩⟩⟩⟩⟩⟩⟩⟩⟩⟩⟩⟩⟩⟩⟩⟩⟩⟩⟩⟩⟩⟩⟩⟩⟩⟩⟩⟩⟩⟩⟩⟩⟩⟩⟩⟩⟩⟩⟩⟩⟩⟩⟩⟩⟩⟩⟩⟩⟩⟩⟩⟩⟩⟩⟩⟩⟩⟩⟩⟩⟩⟩⟩⟩
end
section
/-! ===== the words of the tables, by their places ===== -/
def m_TB : List Cond := lw_tbl.filter goodWord
theorem m_TB_of {w : Cond} (i : Nat) (h : lw_tbl[i]? = some w) (g : goodWord w = true) : w ∈ m_TB := List.mem_filter.mpr ⟨List.mem_of_getElem? h, g⟩
theorem m_batch {α : Type} (l : List α) (f : α → Cond) (ps : List Nat) (h : l.map (fun q => some (f q)) = ps.map (fun i => lw_tbl[i]?)) (g : l.all (fun q => goodWord (f q)) = true) : ∀ q ∈ l, f q ∈ m_TB := by
  intro q hq
  refine List.mem_filter.mpr ⟨?_, List.all_eq_true.mp g q hq⟩
  have h1 : some (f q) ∈ l.map (fun q => some (f q)) := List.mem_map.mpr ⟨q, hq, rfl⟩
  rw [h] at h1
  obtain ⟨i, -, hi⟩ := List.mem_map.mp h1
  exact List.mem_of_getElem? hi
def m_cw (M : m_Me) : Cond := .code M.2.1 M.2.2.1 M.2.2.2.1 M.2.2.2.2.1
def m_fw (q : Nat × Nat × Nat × Nat) : Cond := match m_cl[q.2.2.1]? with
  | some (_, T, _) => .fieldLink (m_cn q.1) q.2.1 (T q.2.2.2).1 (T q.2.2.2).2.1 (T q.2.2.2).2.2.1
  | none => .fieldLink "" 0 "" "" ""
set_option maxRecDepth 100000 in
theorem cw_X0_workOut : m_cw M_X0_workOut ∈ lw_tbl := List.mem_of_getElem? (i := 324) rfl
set_option maxRecDepth 100000 in
theorem cw_X0_findReader : m_cw M_X0_findReader ∈ lw_tbl := List.mem_of_getElem? (i := 329) rfl
set_option maxRecDepth 100000 in
theorem cw_X0_bringDown : m_cw M_X0_bringDown ∈ lw_tbl := List.mem_of_getElem? (i := 337) rfl
set_option maxRecDepth 100000 in
theorem cw_X0_linesBy : m_cw M_X0_linesBy ∈ lw_tbl := List.mem_of_getElem? (i := 364) rfl
set_option maxRecDepth 100000 in
theorem cw_X0_wetOfAll : m_cw M_X0_wetOfAll ∈ lw_tbl := List.mem_of_getElem? (i := 439) rfl
set_option maxRecDepth 100000 in
theorem cw_X0_wetFields : m_cw M_X0_wetFields ∈ lw_tbl := List.mem_of_getElem? (i := 467) rfl
set_option maxRecDepth 100000 in
theorem cw_X1_renew : m_cw M_X1_renew ∈ lw_tbl := List.mem_of_getElem? (i := 549) rfl
set_option maxRecDepth 100000 in
theorem cw_X1_faultOfTaking : m_cw M_X1_faultOfTaking ∈ lw_tbl := List.mem_of_getElem? (i := 257) rfl
set_option maxRecDepth 100000 in
theorem cw_X1_hasCell : m_cw M_X1_hasCell ∈ lw_tbl := List.mem_of_getElem? (i := 562) rfl
set_option maxRecDepth 100000 in
theorem cw_X1_hasCells : m_cw M_X1_hasCells ∈ lw_tbl := List.mem_of_getElem? (i := 265) rfl
set_option maxRecDepth 100000 in
theorem cw_X1_cut : m_cw M_X1_cut ∈ lw_tbl := List.mem_of_getElem? (i := 566) rfl
set_option maxRecDepth 100000 in
theorem cw_X2_clear : m_cw M_X2_clear ∈ lw_tbl := List.mem_of_getElem? (i := 276) rfl
set_option maxRecDepth 100000 in
theorem cw_X2_become : m_cw M_X2_become ∈ lw_tbl := List.mem_of_getElem? (i := 311) rfl
set_option maxRecDepth 100000 in
theorem cw_X2_hourOfReading : m_cw M_X2_hourOfReading ∈ lw_tbl := List.mem_of_getElem? (i := 333) rfl
set_option maxRecDepth 100000 in
theorem cw_X2_given : m_cw M_X2_given ∈ lw_tbl := List.mem_of_getElem? (i := 341) rfl
set_option maxRecDepth 100000 in
theorem cw_X2_coughs : m_cw M_X2_coughs ∈ lw_tbl := List.mem_of_getElem? (i := 352) rfl
set_option maxRecDepth 100000 in
theorem cw_X2_turnCough : m_cw M_X2_turnCough ∈ lw_tbl := List.mem_of_getElem? (i := 398) rfl
set_option maxRecDepth 100000 in
theorem cw_X2_coughCount : m_cw M_X2_coughCount ∈ lw_tbl := List.mem_of_getElem? (i := 619) rfl
set_option maxRecDepth 100000 in
theorem cw_X2_goesTo : m_cw M_X2_goesTo ∈ lw_tbl := List.mem_of_getElem? (i := 348) rfl
set_option maxRecDepth 100000 in
theorem cw_X2_beginnings : m_cw M_X2_beginnings ∈ lw_tbl := List.mem_of_getElem? (i := 447) rfl
set_option maxRecDepth 100000 in
theorem cw_X2_beginBy : m_cw M_X2_beginBy ∈ lw_tbl := List.mem_of_getElem? (i := 451) rfl
set_option maxRecDepth 100000 in
theorem cw_X2_does : m_cw M_X2_does ∈ lw_tbl := List.mem_of_getElem? (i := 430) rfl
set_option maxRecDepth 100000 in
theorem cw_X3_firstFault : m_cw M_X3_firstFault ∈ lw_tbl := List.mem_of_getElem? (i := 269) rfl
set_option maxRecDepth 100000 in
theorem cw_X3_isText : m_cw M_X3_isText ∈ lw_tbl := List.mem_of_getElem? (i := 283) rfl
set_option maxRecDepth 100000 in
theorem cw_X3_takesLine : m_cw M_X3_takesLine ∈ lw_tbl := List.mem_of_getElem? (i := 295) rfl
set_option maxRecDepth 100000 in
theorem cw_X3_takesCrier : m_cw M_X3_takesCrier ∈ lw_tbl := List.mem_of_getElem? (i := 303) rfl
set_option maxRecDepth 100000 in
theorem cw_X3_isAt : m_cw M_X3_isAt ∈ lw_tbl := List.mem_of_getElem? (i := 291) rfl
set_option maxRecDepth 100000 in
theorem cw_X3_takes : m_cw M_X3_takes ∈ lw_tbl := List.mem_of_getElem? (i := 287) rfl
set_option maxRecDepth 100000 in
theorem cw_X3_takenKind : m_cw M_X3_takenKind ∈ lw_tbl := List.mem_of_getElem? (i := 307) rfl
set_option maxRecDepth 100000 in
theorem cw_X3_takenDigit : m_cw M_X3_takenDigit ∈ lw_tbl := List.mem_of_getElem? (i := 299) rfl
set_option maxRecDepth 100000 in
theorem cw_X4_shower : m_cw M_X4_shower ∈ lw_tbl := List.mem_of_getElem? (i := 247) rfl
set_option maxRecDepth 100000 in
theorem cw_X4_ofLine : m_cw M_X4_ofLine ∈ lw_tbl := List.mem_of_getElem? (i := 316) rfl
set_option maxRecDepth 100000 in
theorem cw_X4_ofCrier : m_cw M_X4_ofCrier ∈ lw_tbl := List.mem_of_getElem? (i := 356) rfl
set_option maxRecDepth 100000 in
theorem cw_X4_print : m_cw M_X4_print ∈ lw_tbl := List.mem_of_getElem? (i := 369) rfl
set_option maxRecDepth 100000 in
theorem cw_X4_begin : m_cw M_X4_begin ∈ lw_tbl := List.mem_of_getElem? (i := 376) rfl
set_option maxRecDepth 100000 in
theorem cw_X4_cough : m_cw M_X4_cough ∈ lw_tbl := List.mem_of_getElem? (i := 380) rfl
set_option maxRecDepth 100000 in
theorem cw_X4_comes : m_cw M_X4_comes ∈ lw_tbl := List.mem_of_getElem? (i := 403) rfl
set_option maxRecDepth 100000 in
theorem cw_X4_wet : m_cw M_X4_wet ∈ lw_tbl := List.mem_of_getElem? (i := 407) rfl
set_option maxRecDepth 100000 in
theorem cw_X4_day : m_cw M_X4_day ∈ lw_tbl := List.mem_of_getElem? (i := 411) rfl
set_option maxRecDepth 100000 in
theorem cw_X4_areActs : m_cw M_X4_areActs ∈ lw_tbl := List.mem_of_getElem? (i := 418) rfl
set_option maxRecDepth 100000 in
theorem cw_X4_isAct : m_cw M_X4_isAct ∈ lw_tbl := List.mem_of_getElem? (i := 422) rfl
set_option maxRecDepth 100000 in
theorem cw_X4_firstWrong : m_cw M_X4_firstWrong ∈ lw_tbl := List.mem_of_getElem? (i := 426) rfl
set_option maxRecDepth 100000 in
theorem cw_X4_answerOfDay : m_cw M_X4_answerOfDay ∈ lw_tbl := List.mem_of_getElem? (i := 435) rfl
set_option maxRecDepth 100000 in
theorem cw_X4_isAskedOfDay : m_cw M_X4_isAskedOfDay ∈ lw_tbl := List.mem_of_getElem? (i := 414) rfl
set_option maxRecDepth 100000 in
theorem cw_X4_whole : m_cw M_X4_whole ∈ lw_tbl := List.mem_of_getElem? (i := 443) rfl
set_option maxRecDepth 100000 in
theorem cw_X4_most : m_cw M_X4_most ∈ lw_tbl := List.mem_of_getElem? (i := 459) rfl
set_option maxRecDepth 100000 in
theorem cw_X4_startIn : m_cw M_X4_startIn ∈ lw_tbl := List.mem_of_getElem? (i := 455) rfl
set_option maxRecDepth 100000 in
theorem cw_X4_strayed : m_cw M_X4_strayed ∈ lw_tbl := List.mem_of_getElem? (i := 463) rfl
set_option maxRecDepth 100000 in
theorem cw_X4_saved : m_cw M_X4_saved ∈ lw_tbl := List.mem_of_getElem? (i := 471) rfl
set_option maxRecDepth 100000 in
theorem cw_X4_savesBy : m_cw M_X4_savesBy ∈ lw_tbl := List.mem_of_getElem? (i := 481) rfl
set_option maxRecDepth 100000 in
theorem cw_X4_misprint : m_cw M_X4_misprint ∈ lw_tbl := List.mem_of_getElem? (i := 485) rfl
set_option maxRecDepth 100000 in
theorem cw_X4_isWetBy : m_cw M_X4_isWetBy ∈ lw_tbl := List.mem_of_getElem? (i := 489) rfl
set_option maxRecDepth 100000 in
theorem cw_X4_rests : m_cw M_X4_rests ∈ lw_tbl := List.mem_of_getElem? (i := 493) rfl
set_option maxRecDepth 100000 in
theorem cw_X4_painOfFirst : m_cw M_X4_painOfFirst ∈ lw_tbl := List.mem_of_getElem? (i := 497) rfl
set_option maxRecDepth 100000 in
theorem cw_X4_painOfSecond : m_cw M_X4_painOfSecond ∈ lw_tbl := List.mem_of_getElem? (i := 505) rfl
set_option maxRecDepth 100000 in
theorem cw_X4_coughInTrial : m_cw M_X4_coughInTrial ∈ lw_tbl := List.mem_of_getElem? (i := 501) rfl
set_option maxRecDepth 100000 in
theorem cw_X4_reading : m_cw M_X4_reading ∈ lw_tbl := List.mem_of_getElem? (i := 509) rfl
set_option maxRecDepth 100000 in
theorem cw_X4_back : m_cw M_X4_back ∈ lw_tbl := List.mem_of_getElem? (i := 513) rfl
set_option maxRecDepth 100000 in
theorem cw_X4_kinds : m_cw M_X4_kinds ∈ lw_tbl := List.mem_of_getElem? (i := 517) rfl
set_option maxRecDepth 100000 in
theorem cw_X4_paces : m_cw M_X4_paces ∈ lw_tbl := List.mem_of_getElem? (i := 529) rfl
set_option maxRecDepth 100000 in
theorem cw_X4_starts : m_cw M_X4_starts ∈ lw_tbl := List.mem_of_getElem? (i := 533) rfl
set_option maxRecDepth 100000 in
theorem cw_X4_fitting : m_cw M_X4_fitting ∈ lw_tbl := List.mem_of_getElem? (i := 521) rfl
set_option maxRecDepth 100000 in
theorem cw_X4_allReadingsAreSo : m_cw M_X4_allReadingsAreSo ∈ lw_tbl := List.mem_of_getElem? (i := 525) rfl
set_option maxRecDepth 100000 in
theorem cw_X4_odds : m_cw M_X4_odds ∈ lw_tbl := List.mem_of_getElem? (i := 537) rfl
set_option maxRecDepth 100000 in
theorem cw_X4_commonPart : m_cw M_X4_commonPart ∈ lw_tbl := List.mem_of_getElem? (i := 541) rfl
set_option maxRecDepth 100000 in
theorem cw_X4_sheet : m_cw M_X4_sheet ∈ lw_tbl := List.mem_of_getElem? (i := 545) rfl
set_option maxRecDepth 100000 in
theorem cw_X4_lose : m_cw M_X4_lose ∈ lw_tbl := List.mem_of_getElem? (i := 554) rfl
set_option maxRecDepth 100000 in
theorem cw_X4_put : m_cw M_X4_put ∈ lw_tbl := List.mem_of_getElem? (i := 558) rfl
set_option maxRecDepth 100000 in
theorem cw_X4_cell : m_cw M_X4_cell ∈ lw_tbl := List.mem_of_getElem? (i := 570) rfl
set_option maxRecDepth 100000 in
theorem cw_X4_copy : m_cw M_X4_copy ∈ lw_tbl := List.mem_of_getElem? (i := 574) rfl
set_option maxRecDepth 100000 in
theorem cw_X4_tell : m_cw M_X4_tell ∈ lw_tbl := List.mem_of_getElem? (i := 579) rfl
set_option maxRecDepth 100000 in
theorem cw_X4_plainTelling : m_cw M_X4_plainTelling ∈ lw_tbl := List.mem_of_getElem? (i := 583) rfl
set_option maxRecDepth 100000 in
theorem cw_X4_mumblingTelling : m_cw M_X4_mumblingTelling ∈ lw_tbl := List.mem_of_getElem? (i := 591) rfl
set_option maxRecDepth 100000 in
theorem cw_X4_chantingTelling : m_cw M_X4_chantingTelling ∈ lw_tbl := List.mem_of_getElem? (i := 595) rfl
set_option maxRecDepth 100000 in
theorem cw_X4_bribe : m_cw M_X4_bribe ∈ lw_tbl := List.mem_of_getElem? (i := 599) rfl
set_option maxRecDepth 100000 in
theorem cw_X4_leave : m_cw M_X4_leave ∈ lw_tbl := List.mem_of_getElem? (i := 587) rfl
set_option maxRecDepth 100000 in
theorem cw_X4_as : m_cw M_X4_as ∈ lw_tbl := List.mem_of_getElem? (i := 603) rfl
set_option maxRecDepth 100000 in
theorem cw_X4_trace : m_cw M_X4_trace ∈ lw_tbl := List.mem_of_getElem? (i := 607) rfl
set_option maxRecDepth 100000 in
theorem cw_X4_fault : m_cw M_X4_fault ∈ lw_tbl := List.mem_of_getElem? (i := 611) rfl
set_option maxRecDepth 100000 in
theorem cw_X4_many : m_cw M_X4_many ∈ lw_tbl := List.mem_of_getElem? (i := 615) rfl
set_option maxRecDepth 100000 in
theorem cw_X4_faulted : m_cw M_X4_faulted ∈ lw_tbl := List.mem_of_getElem? (i := 261) rfl
set_option maxRecDepth 100000 in
theorem cw_X4_refusalOf : m_cw M_X4_refusalOf ∈ lw_tbl := List.mem_of_getElem? (i := 387) rfl
set_option maxRecDepth 100000 in
theorem cw_X4_hasShower : m_cw M_X4_hasShower ∈ lw_tbl := List.mem_of_getElem? (i := 394) rfl
set_option maxRecDepth 100000 in
theorem cw_X4_isLine : m_cw M_X4_isLine ∈ lw_tbl := List.mem_of_getElem? (i := 320) rfl
set_option maxRecDepth 100000 in
theorem cw_X4_isCrier : m_cw M_X4_isCrier ∈ lw_tbl := List.mem_of_getElem? (i := 360) rfl
set_option maxRecDepth 100000 in
theorem cw_X4_isField : m_cw M_X4_isField ∈ lw_tbl := List.mem_of_getElem? (i := 390) rfl
set_option maxRecDepth 100000 in
theorem cw_X4_isHour : m_cw M_X4_isHour ∈ lw_tbl := List.mem_of_getElem? (i := 383) rfl
set_option maxRecDepth 100000 in
theorem cw_X4_isSheet : m_cw M_X4_isSheet ∈ lw_tbl := List.mem_of_getElem? (i := 250) rfl
set_option maxRecDepth 100000 in
theorem cw_X4_isLane : m_cw M_X4_isLane ∈ lw_tbl := List.mem_of_getElem? (i := 253) rfl
set_option maxRecDepth 100000 in
theorem cw_X4_isWithin : m_cw M_X4_isWithin ∈ lw_tbl := List.mem_of_getElem? (i := 372) rfl
set_option maxRecDepth 100000 in
theorem cw_X5_in : m_cw M_X5_in ∈ lw_tbl := List.mem_of_getElem? (i := 740) rfl
set_option maxRecDepth 100000 in
theorem cw_X5_lost : m_cw M_X5_lost ∈ lw_tbl := List.mem_of_getElem? (i := 979) rfl
set_option maxRecDepth 100000 in
theorem cw_X5_bits : m_cw M_X5_bits ∈ lw_tbl := List.mem_of_getElem? (i := 928) rfl
set_option maxRecDepth 100000 in
theorem cw_X5_share : m_cw M_X5_share ∈ lw_tbl := List.mem_of_getElem? (i := 983) rfl
set_option maxRecDepth 100000 in
theorem cw_X5_refused : m_cw M_X5_refused ∈ lw_tbl := List.mem_of_getElem? (i := 744) rfl
set_option maxRecDepth 100000 in
theorem cw_X5_failed : m_cw M_X5_failed ∈ lw_tbl := List.mem_of_getElem? (i := 753) rfl
set_option maxRecDepth 100000 in
theorem cw_X5_failedLong : m_cw M_X5_failedLong ∈ lw_tbl := List.mem_of_getElem? (i := 1007) rfl
set_option maxRecDepth 100000 in
theorem cw_X5_noLine : m_cw M_X5_noLine ∈ lw_tbl := List.mem_of_getElem? (i := 784) rfl
set_option maxRecDepth 100000 in
theorem cw_X5_noCrier : m_cw M_X5_noCrier ∈ lw_tbl := List.mem_of_getElem? (i := 816) rfl
set_option maxRecDepth 100000 in
theorem cw_X5_noField : m_cw M_X5_noField ∈ lw_tbl := List.mem_of_getElem? (i := 832) rfl
set_option maxRecDepth 100000 in
theorem cw_X5_isHour : m_cw M_X5_isHour ∈ lw_tbl := List.mem_of_getElem? (i := 835) rfl
set_option maxRecDepth 100000 in
theorem cw_X5_codeAt : m_cw M_X5_codeAt ∈ lw_tbl := List.mem_of_getElem? (i := 764) rfl
set_option maxRecDepth 100000 in
theorem cw_X5_figure : m_cw M_X5_figure ∈ lw_tbl := List.mem_of_getElem? (i := 772) rfl
set_option maxRecDepth 100000 in
theorem cw_X5_readsLine : m_cw M_X5_readsLine ∈ lw_tbl := List.mem_of_getElem? (i := 768) rfl
set_option maxRecDepth 100000 in
theorem cw_X5_readsCrier : m_cw M_X5_readsCrier ∈ lw_tbl := List.mem_of_getElem? (i := 776) rfl
set_option maxRecDepth 100000 in
theorem cw_X5_readsShower : m_cw M_X5_readsShower ∈ lw_tbl := List.mem_of_getElem? (i := 760) rfl
set_option maxRecDepth 100000 in
theorem cw_X5_cellsBarred : m_cw M_X5_cellsBarred ∈ lw_tbl := List.mem_of_getElem? (i := 749) rfl
set_option maxRecDepth 100000 in
theorem cw_X5_shower : m_cw M_X5_shower ∈ lw_tbl := List.mem_of_getElem? (i := 733) rfl
set_option maxRecDepth 100000 in
theorem cw_X5_hourBy : m_cw M_X5_hourBy ∈ lw_tbl := List.mem_of_getElem? (i := 796) rfl
set_option maxRecDepth 100000 in
theorem cw_X5_reads : m_cw M_X5_reads ∈ lw_tbl := List.mem_of_getElem? (i := 792) rfl
set_option maxRecDepth 100000 in
theorem cw_X5_given : m_cw M_X5_given ∈ lw_tbl := List.mem_of_getElem? (i := 800) rfl
set_option maxRecDepth 100000 in
theorem cw_X5_coughs : m_cw M_X5_coughs ∈ lw_tbl := List.mem_of_getElem? (i := 808) rfl
set_option maxRecDepth 100000 in
theorem cw_X5_falls : m_cw M_X5_falls ∈ lw_tbl := List.mem_of_getElem? (i := 804) rfl
set_option maxRecDepth 100000 in
theorem cw_X5_rains : m_cw M_X5_rains ∈ lw_tbl := List.mem_of_getElem? (i := 788) rfl
set_option maxRecDepth 100000 in
theorem cw_X5_wetOfAll : m_cw M_X5_wetOfAll ∈ lw_tbl := List.mem_of_getElem? (i := 882) rfl
set_option maxRecDepth 100000 in
theorem cw_X5_thoseThatHang : m_cw M_X5_thoseThatHang ∈ lw_tbl := List.mem_of_getElem? (i := 886) rfl
set_option maxRecDepth 100000 in
theorem cw_X5_thoseOfMud : m_cw M_X5_thoseOfMud ∈ lw_tbl := List.mem_of_getElem? (i := 890) rfl
set_option maxRecDepth 100000 in
theorem cw_X5_ofLine : m_cw M_X5_ofLine ∈ lw_tbl := List.mem_of_getElem? (i := 780) rfl
set_option maxRecDepth 100000 in
theorem cw_X5_ofCrier : m_cw M_X5_ofCrier ∈ lw_tbl := List.mem_of_getElem? (i := 812) rfl
set_option maxRecDepth 100000 in
theorem cw_X5_print : m_cw M_X5_print ∈ lw_tbl := List.mem_of_getElem? (i := 820) rfl
set_option maxRecDepth 100000 in
theorem cw_X5_begin : m_cw M_X5_begin ∈ lw_tbl := List.mem_of_getElem? (i := 825) rfl
set_option maxRecDepth 100000 in
theorem cw_X5_coughed : m_cw M_X5_coughed ∈ lw_tbl := List.mem_of_getElem? (i := 840) rfl
set_option maxRecDepth 100000 in
theorem cw_X5_cough : m_cw M_X5_cough ∈ lw_tbl := List.mem_of_getElem? (i := 829) rfl
set_option maxRecDepth 100000 in
theorem cw_X5_comes : m_cw M_X5_comes ∈ lw_tbl := List.mem_of_getElem? (i := 844) rfl
set_option maxRecDepth 100000 in
theorem cw_X5_wetNow : m_cw M_X5_wetNow ∈ lw_tbl := List.mem_of_getElem? (i := 852) rfl
set_option maxRecDepth 100000 in
theorem cw_X5_wet : m_cw M_X5_wet ∈ lw_tbl := List.mem_of_getElem? (i := 848) rfl
set_option maxRecDepth 100000 in
theorem cw_X5_isAsTold : m_cw M_X5_isAsTold ∈ lw_tbl := List.mem_of_getElem? (i := 863) rfl
set_option maxRecDepth 100000 in
theorem cw_X5_doesPair : m_cw M_X5_doesPair ∈ lw_tbl := List.mem_of_getElem? (i := 876) rfl
set_option maxRecDepth 100000 in
theorem cw_X5_dayOf : m_cw M_X5_dayOf ∈ lw_tbl := List.mem_of_getElem? (i := 872) rfl
set_option maxRecDepth 100000 in
theorem cw_X5_keeps : m_cw M_X5_keeps ∈ lw_tbl := List.mem_of_getElem? (i := 868) rfl
set_option maxRecDepth 100000 in
theorem cw_X5_bringsBack : m_cw M_X5_bringsBack ∈ lw_tbl := List.mem_of_getElem? (i := 894) rfl
set_option maxRecDepth 100000 in
theorem cw_X5_day : m_cw M_X5_day ∈ lw_tbl := List.mem_of_getElem? (i := 856) rfl
set_option maxRecDepth 100000 in
theorem cw_X5_beginnings : m_cw M_X5_beginnings ∈ lw_tbl := List.mem_of_getElem? (i := 903) rfl
set_option maxRecDepth 100000 in
theorem cw_X5_begins : m_cw M_X5_begins ∈ lw_tbl := List.mem_of_getElem? (i := 907) rfl
set_option maxRecDepth 100000 in
theorem cw_X5_startIn : m_cw M_X5_startIn ∈ lw_tbl := List.mem_of_getElem? (i := 911) rfl
set_option maxRecDepth 100000 in
theorem cw_X5_whole : m_cw M_X5_whole ∈ lw_tbl := List.mem_of_getElem? (i := 898) rfl
set_option maxRecDepth 100000 in
theorem cw_X5_most : m_cw M_X5_most ∈ lw_tbl := List.mem_of_getElem? (i := 915) rfl
set_option maxRecDepth 100000 in
theorem cw_X5_strayed : m_cw M_X5_strayed ∈ lw_tbl := List.mem_of_getElem? (i := 919) rfl
set_option maxRecDepth 100000 in
theorem cw_X5_areSaved : m_cw M_X5_areSaved ∈ lw_tbl := List.mem_of_getElem? (i := 932) rfl
set_option maxRecDepth 100000 in
theorem cw_X5_saved : m_cw M_X5_saved ∈ lw_tbl := List.mem_of_getElem? (i := 923) rfl
set_option maxRecDepth 100000 in
theorem cw_X5_apart : m_cw M_X5_apart ∈ lw_tbl := List.mem_of_getElem? (i := 939) rfl
set_option maxRecDepth 100000 in
theorem cw_X5_misprint : m_cw M_X5_misprint ∈ lw_tbl := List.mem_of_getElem? (i := 936) rfl
set_option maxRecDepth 100000 in
theorem cw_X5_pain : m_cw M_X5_pain ∈ lw_tbl := List.mem_of_getElem? (i := 947) rfl
set_option maxRecDepth 100000 in
theorem cw_X5_rests : m_cw M_X5_rests ∈ lw_tbl := List.mem_of_getElem? (i := 943) rfl
set_option maxRecDepth 100000 in
theorem cw_X5_reading : m_cw M_X5_reading ∈ lw_tbl := List.mem_of_getElem? (i := 951) rfl
set_option maxRecDepth 100000 in
theorem cw_X5_back : m_cw M_X5_back ∈ lw_tbl := List.mem_of_getElem? (i := 956) rfl
set_option maxRecDepth 100000 in
theorem cw_X5_areSo : m_cw M_X5_areSo ∈ lw_tbl := List.mem_of_getElem? (i := 964) rfl
set_option maxRecDepth 100000 in
theorem cw_X5_kinds : m_cw M_X5_kinds ∈ lw_tbl := List.mem_of_getElem? (i := 960) rfl
set_option maxRecDepth 100000 in
theorem cw_X5_paces : m_cw M_X5_paces ∈ lw_tbl := List.mem_of_getElem? (i := 968) rfl
set_option maxRecDepth 100000 in
theorem cw_X5_starts : m_cw M_X5_starts ∈ lw_tbl := List.mem_of_getElem? (i := 972) rfl
set_option maxRecDepth 100000 in
theorem cw_X5_odds : m_cw M_X5_odds ∈ lw_tbl := List.mem_of_getElem? (i := 976) rfl
set_option maxRecDepth 100000 in
theorem cw_X5_noSheet : m_cw M_X5_noSheet ∈ lw_tbl := List.mem_of_getElem? (i := 736) rfl
set_option maxRecDepth 100000 in
theorem cw_X5_sheet : m_cw M_X5_sheet ∈ lw_tbl := List.mem_of_getElem? (i := 987) rfl
set_option maxRecDepth 100000 in
theorem cw_X5_lose : m_cw M_X5_lose ∈ lw_tbl := List.mem_of_getElem? (i := 991) rfl
set_option maxRecDepth 100000 in
theorem cw_X5_noCell : m_cw M_X5_noCell ∈ lw_tbl := List.mem_of_getElem? (i := 999) rfl
set_option maxRecDepth 100000 in
theorem cw_X5_put : m_cw M_X5_put ∈ lw_tbl := List.mem_of_getElem? (i := 995) rfl
set_option maxRecDepth 100000 in
theorem cw_X5_cell : m_cw M_X5_cell ∈ lw_tbl := List.mem_of_getElem? (i := 1003) rfl
set_option maxRecDepth 100000 in
theorem cw_X5_isBeyond : m_cw M_X5_isBeyond ∈ lw_tbl := List.mem_of_getElem? (i := 756) rfl
set_option maxRecDepth 100000 in
theorem cw_X5_copy : m_cw M_X5_copy ∈ lw_tbl := List.mem_of_getElem? (i := 1011) rfl
set_option maxRecDepth 100000 in
theorem cw_X5_traced : m_cw M_X5_traced ∈ lw_tbl := List.mem_of_getElem? (i := 1019) rfl
set_option maxRecDepth 100000 in
theorem cw_X5_tell : m_cw M_X5_tell ∈ lw_tbl := List.mem_of_getElem? (i := 1015) rfl
set_option maxRecDepth 100000 in
theorem cw_X5_bribe : m_cw M_X5_bribe ∈ lw_tbl := List.mem_of_getElem? (i := 1023) rfl
set_option maxRecDepth 100000 in
theorem cw_X5_as : m_cw M_X5_as ∈ lw_tbl := List.mem_of_getElem? (i := 1027) rfl
set_option maxRecDepth 100000 in
theorem cw_X5_trace : m_cw M_X5_trace ∈ lw_tbl := List.mem_of_getElem? (i := 1031) rfl
set_option maxRecDepth 100000 in
theorem cw_X5_fault : m_cw M_X5_fault ∈ lw_tbl := List.mem_of_getElem? (i := 1035) rfl
set_option maxRecDepth 100000 in
theorem cw_X5_many : m_cw M_X5_many ∈ lw_tbl := List.mem_of_getElem? (i := 1039) rfl
set_option maxRecDepth 100000 in
theorem cw_J6_bitCount_0f7a4 : m_cw M_J6_bitCount_0f7a4 ∈ lw_tbl := List.mem_of_getElem? (i := 474) rfl
set_option maxRecDepth 100000 in
theorem cw_J7_fill_53178 : m_cw M_J7_fill_53178 ∈ lw_tbl := List.mem_of_getElem? (i := 279) rfl
set_option maxRecDepth 100000 in
theorem cw_J9_max_7cf53 : m_cw M_J9_max_7cf53 ∈ lw_tbl := List.mem_of_getElem? (i := 344) rfl
set_option maxRecDepth 100000 in
theorem cw_all : ∀ M ∈ m_ms.dropLast, m_cw M ∈ m_TB := fun M h => List.mem_filter.mpr ⟨(show ∀ M ∈ m_ms.dropLast, m_cw M ∈ lw_tbl from List.forall_mem_cons.mpr ⟨cw_X0_workOut, List.forall_mem_cons.mpr ⟨cw_X0_findReader, List.forall_mem_cons.mpr ⟨cw_X0_bringDown, List.forall_mem_cons.mpr ⟨cw_X0_linesBy, List.forall_mem_cons.mpr ⟨cw_X0_wetOfAll, List.forall_mem_cons.mpr ⟨cw_X0_wetFields, List.forall_mem_cons.mpr ⟨cw_X1_renew, List.forall_mem_cons.mpr ⟨cw_X1_faultOfTaking, List.forall_mem_cons.mpr ⟨cw_X1_hasCell, List.forall_mem_cons.mpr ⟨cw_X1_hasCells, List.forall_mem_cons.mpr ⟨cw_X1_cut, List.forall_mem_cons.mpr ⟨cw_X2_clear, List.forall_mem_cons.mpr ⟨cw_X2_become, List.forall_mem_cons.mpr ⟨cw_X2_hourOfReading, List.forall_mem_cons.mpr ⟨cw_X2_given, List.forall_mem_cons.mpr ⟨cw_X2_coughs, List.forall_mem_cons.mpr ⟨cw_X2_turnCough, List.forall_mem_cons.mpr ⟨cw_X2_coughCount, List.forall_mem_cons.mpr ⟨cw_X2_goesTo, List.forall_mem_cons.mpr ⟨cw_X2_beginnings, List.forall_mem_cons.mpr ⟨cw_X2_beginBy, List.forall_mem_cons.mpr ⟨cw_X2_does, List.forall_mem_cons.mpr ⟨cw_X3_firstFault, List.forall_mem_cons.mpr ⟨cw_X3_isText, List.forall_mem_cons.mpr ⟨cw_X3_takesLine, List.forall_mem_cons.mpr ⟨cw_X3_takesCrier, List.forall_mem_cons.mpr ⟨cw_X3_isAt, List.forall_mem_cons.mpr ⟨cw_X3_takes, List.forall_mem_cons.mpr ⟨cw_X3_takenKind, List.forall_mem_cons.mpr ⟨cw_X3_takenDigit, List.forall_mem_cons.mpr ⟨cw_X4_shower, List.forall_mem_cons.mpr ⟨cw_X4_ofLine, List.forall_mem_cons.mpr ⟨cw_X4_ofCrier, List.forall_mem_cons.mpr ⟨cw_X4_print, List.forall_mem_cons.mpr ⟨cw_X4_begin, List.forall_mem_cons.mpr ⟨cw_X4_cough, List.forall_mem_cons.mpr ⟨cw_X4_comes, List.forall_mem_cons.mpr ⟨cw_X4_wet, List.forall_mem_cons.mpr ⟨cw_X4_day, List.forall_mem_cons.mpr ⟨cw_X4_areActs, List.forall_mem_cons.mpr ⟨cw_X4_isAct, List.forall_mem_cons.mpr ⟨cw_X4_firstWrong, List.forall_mem_cons.mpr ⟨cw_X4_answerOfDay, List.forall_mem_cons.mpr ⟨cw_X4_isAskedOfDay, List.forall_mem_cons.mpr ⟨cw_X4_whole, List.forall_mem_cons.mpr ⟨cw_X4_most, List.forall_mem_cons.mpr ⟨cw_X4_startIn, List.forall_mem_cons.mpr ⟨cw_X4_strayed, List.forall_mem_cons.mpr ⟨cw_X4_saved, List.forall_mem_cons.mpr ⟨cw_X4_savesBy, List.forall_mem_cons.mpr ⟨cw_X4_misprint, List.forall_mem_cons.mpr ⟨cw_X4_isWetBy, List.forall_mem_cons.mpr ⟨cw_X4_rests, List.forall_mem_cons.mpr ⟨cw_X4_painOfFirst, List.forall_mem_cons.mpr ⟨cw_X4_painOfSecond, List.forall_mem_cons.mpr ⟨cw_X4_coughInTrial, List.forall_mem_cons.mpr ⟨cw_X4_reading, List.forall_mem_cons.mpr ⟨cw_X4_back, List.forall_mem_cons.mpr ⟨cw_X4_kinds, List.forall_mem_cons.mpr ⟨cw_X4_paces, List.forall_mem_cons.mpr ⟨cw_X4_starts, List.forall_mem_cons.mpr ⟨cw_X4_fitting, List.forall_mem_cons.mpr ⟨cw_X4_allReadingsAreSo, List.forall_mem_cons.mpr ⟨cw_X4_odds, List.forall_mem_cons.mpr ⟨cw_X4_commonPart, List.forall_mem_cons.mpr ⟨cw_X4_sheet, List.forall_mem_cons.mpr ⟨cw_X4_lose, List.forall_mem_cons.mpr ⟨cw_X4_put, List.forall_mem_cons.mpr ⟨cw_X4_cell, List.forall_mem_cons.mpr ⟨cw_X4_copy, List.forall_mem_cons.mpr ⟨cw_X4_tell, List.forall_mem_cons.mpr ⟨cw_X4_plainTelling, List.forall_mem_cons.mpr ⟨cw_X4_mumblingTelling, List.forall_mem_cons.mpr ⟨cw_X4_chantingTelling, List.forall_mem_cons.mpr ⟨cw_X4_bribe, List.forall_mem_cons.mpr ⟨cw_X4_leave, List.forall_mem_cons.mpr ⟨cw_X4_as, List.forall_mem_cons.mpr ⟨cw_X4_trace, List.forall_mem_cons.mpr ⟨cw_X4_fault, List.forall_mem_cons.mpr ⟨cw_X4_many, List.forall_mem_cons.mpr ⟨cw_X4_faulted, List.forall_mem_cons.mpr ⟨cw_X4_refusalOf, List.forall_mem_cons.mpr ⟨cw_X4_hasShower, List.forall_mem_cons.mpr ⟨cw_X4_isLine, List.forall_mem_cons.mpr ⟨cw_X4_isCrier, List.forall_mem_cons.mpr ⟨cw_X4_isField, List.forall_mem_cons.mpr ⟨cw_X4_isHour, List.forall_mem_cons.mpr ⟨cw_X4_isSheet, List.forall_mem_cons.mpr ⟨cw_X4_isLane, List.forall_mem_cons.mpr ⟨cw_X4_isWithin, List.forall_mem_cons.mpr ⟨cw_X5_in, List.forall_mem_cons.mpr ⟨cw_X5_lost, List.forall_mem_cons.mpr ⟨cw_X5_bits, List.forall_mem_cons.mpr ⟨cw_X5_share, List.forall_mem_cons.mpr ⟨cw_X5_refused, List.forall_mem_cons.mpr ⟨cw_X5_failed, List.forall_mem_cons.mpr ⟨cw_X5_failedLong, List.forall_mem_cons.mpr ⟨cw_X5_noLine, List.forall_mem_cons.mpr ⟨cw_X5_noCrier, List.forall_mem_cons.mpr ⟨cw_X5_noField, List.forall_mem_cons.mpr ⟨cw_X5_isHour, List.forall_mem_cons.mpr ⟨cw_X5_codeAt, List.forall_mem_cons.mpr ⟨cw_X5_figure, List.forall_mem_cons.mpr ⟨cw_X5_readsLine, List.forall_mem_cons.mpr ⟨cw_X5_readsCrier, List.forall_mem_cons.mpr ⟨cw_X5_readsShower, List.forall_mem_cons.mpr ⟨cw_X5_cellsBarred, List.forall_mem_cons.mpr ⟨cw_X5_shower, List.forall_mem_cons.mpr ⟨cw_X5_hourBy, List.forall_mem_cons.mpr ⟨cw_X5_reads, List.forall_mem_cons.mpr ⟨cw_X5_given, List.forall_mem_cons.mpr ⟨cw_X5_coughs, List.forall_mem_cons.mpr ⟨cw_X5_falls, List.forall_mem_cons.mpr ⟨cw_X5_rains, List.forall_mem_cons.mpr ⟨cw_X5_wetOfAll, List.forall_mem_cons.mpr ⟨cw_X5_thoseThatHang, List.forall_mem_cons.mpr ⟨cw_X5_thoseOfMud, List.forall_mem_cons.mpr ⟨cw_X5_ofLine, List.forall_mem_cons.mpr ⟨cw_X5_ofCrier, List.forall_mem_cons.mpr ⟨cw_X5_print, List.forall_mem_cons.mpr ⟨cw_X5_begin, List.forall_mem_cons.mpr ⟨cw_X5_coughed, List.forall_mem_cons.mpr ⟨cw_X5_cough, List.forall_mem_cons.mpr ⟨cw_X5_comes, List.forall_mem_cons.mpr ⟨cw_X5_wetNow, List.forall_mem_cons.mpr ⟨cw_X5_wet, List.forall_mem_cons.mpr ⟨cw_X5_isAsTold, List.forall_mem_cons.mpr ⟨cw_X5_doesPair, List.forall_mem_cons.mpr ⟨cw_X5_dayOf, List.forall_mem_cons.mpr ⟨cw_X5_keeps, List.forall_mem_cons.mpr ⟨cw_X5_bringsBack, List.forall_mem_cons.mpr ⟨cw_X5_day, List.forall_mem_cons.mpr ⟨cw_X5_beginnings, List.forall_mem_cons.mpr ⟨cw_X5_begins, List.forall_mem_cons.mpr ⟨cw_X5_startIn, List.forall_mem_cons.mpr ⟨cw_X5_whole, List.forall_mem_cons.mpr ⟨cw_X5_most, List.forall_mem_cons.mpr ⟨cw_X5_strayed, List.forall_mem_cons.mpr ⟨cw_X5_areSaved, List.forall_mem_cons.mpr ⟨cw_X5_saved, List.forall_mem_cons.mpr ⟨cw_X5_apart, List.forall_mem_cons.mpr ⟨cw_X5_misprint, List.forall_mem_cons.mpr ⟨cw_X5_pain, List.forall_mem_cons.mpr ⟨cw_X5_rests, List.forall_mem_cons.mpr ⟨cw_X5_reading, List.forall_mem_cons.mpr ⟨cw_X5_back, List.forall_mem_cons.mpr ⟨cw_X5_areSo, List.forall_mem_cons.mpr ⟨cw_X5_kinds, List.forall_mem_cons.mpr ⟨cw_X5_paces, List.forall_mem_cons.mpr ⟨cw_X5_starts, List.forall_mem_cons.mpr ⟨cw_X5_odds, List.forall_mem_cons.mpr ⟨cw_X5_noSheet, List.forall_mem_cons.mpr ⟨cw_X5_sheet, List.forall_mem_cons.mpr ⟨cw_X5_lose, List.forall_mem_cons.mpr ⟨cw_X5_noCell, List.forall_mem_cons.mpr ⟨cw_X5_put, List.forall_mem_cons.mpr ⟨cw_X5_cell, List.forall_mem_cons.mpr ⟨cw_X5_isBeyond, List.forall_mem_cons.mpr ⟨cw_X5_copy, List.forall_mem_cons.mpr ⟨cw_X5_traced, List.forall_mem_cons.mpr ⟨cw_X5_tell, List.forall_mem_cons.mpr ⟨cw_X5_bribe, List.forall_mem_cons.mpr ⟨cw_X5_as, List.forall_mem_cons.mpr ⟨cw_X5_trace, List.forall_mem_cons.mpr ⟨cw_X5_fault, List.forall_mem_cons.mpr ⟨cw_X5_many, List.forall_mem_cons.mpr ⟨cw_J6_bitCount_0f7a4, List.forall_mem_cons.mpr ⟨cw_J7_fill_53178, List.forall_mem_cons.mpr ⟨cw_J9_max_7cf53, fun _ h => absurd h List.not_mem_nil⟩⟩⟩⟩⟩⟩⟩⟩⟩⟩⟩⟩⟩⟩⟩⟩⟩⟩⟩⟩⟩⟩⟩⟩⟩⟩⟩⟩⟩⟩⟩⟩⟩⟩⟩⟩⟩⟩⟩⟩⟩⟩⟩⟩⟩⟩⟩⟩⟩⟩⟩⟩⟩⟩⟩⟩⟩⟩⟩⟩⟩⟩⟩⟩⟩⟩⟩⟩⟩⟩⟩⟩⟩⟩⟩⟩⟩⟩⟩⟩⟩⟩⟩⟩⟩⟩⟩⟩⟩⟩⟩⟩⟩⟩⟩⟩⟩⟩⟩⟩⟩⟩⟩⟩⟩⟩⟩⟩⟩⟩⟩⟩⟩⟩⟩⟩⟩⟩⟩⟩⟩⟩⟩⟩⟩⟩⟩⟩⟩⟩⟩⟩⟩⟩⟩⟩⟩⟩⟩⟩⟩⟩⟩⟩⟩⟩⟩⟩⟩⟩⟩⟩⟩⟩⟩⟩⟩⟩⟩⟩⟩⟩⟩⟩⟩⟩⟩⟩⟩) M h, rfl⟩
theorem iw_ok : ∀ y ∈ m_ins, Cond.instanceMethod (m_M y).2.1 ∈ m_TB := m_batch m_ins (fun y => Cond.instanceMethod (m_M y).2.1) [322, 328, 336, 362, 437, 465, 547, 255, 560, 263, 564, 274, 309, 331, 339, 350, 396, 617, 346, 445, 449, 428, 267, 282, 294, 302, 290, 286, 306, 298, 245, 314, 354, 367, 374, 378, 401, 405, 409, 417, 421, 425, 434, 441, 457, 454, 461, 469, 480, 483, 488, 491, 496, 504, 500, 507, 511, 515, 527, 531, 520, 524, 535, 543, 552, 556, 568, 572, 577, 582, 590, 594, 597, 586, 601, 605, 609, 613, 260, 386, 393, 319, 359, 743, 752, 1006, 783, 815, 763, 771, 767, 775, 759, 748, 731, 795, 791, 799, 807, 803, 787, 881, 885, 889, 778, 810, 818, 823, 839, 827, 842, 851, 846, 875, 871, 867, 893, 854, 902, 906, 910, 896, 913, 917, 931, 921, 934, 946, 941, 949, 954, 963, 958, 966, 970, 974, 985, 989, 998, 993, 1001, 1009, 1018, 1013, 1021, 1025, 1029, 1033, 1037] (by decide +kernel) (by decide +kernel)
theorem sw_ok : ∀ y ∈ m_ins, Cond.selects (m_M y).2.1.cls (m_M y).2.1 (m_M y).2.1 ∈ m_TB := m_batch m_ins (fun y => Cond.selects (m_M y).2.1.cls (m_M y).2.1 (m_M y).2.1) [323, 9, 10, 363, 438, 466, 548, 256, 561, 264, 565, 275, 310, 332, 340, 351, 397, 618, 347, 446, 450, 429, 268, 1, 4, 6, 3, 2, 7, 5, 246, 315, 355, 368, 375, 379, 402, 406, 410, 14, 15, 16, 17, 442, 458, 18, 462, 470, 19, 484, 20, 492, 21, 23, 22, 508, 512, 516, 528, 532, 24, 25, 536, 544, 553, 557, 569, 573, 578, 26, 28, 29, 598, 27, 602, 606, 610, 614, 0, 12, 13, 8, 11, 30, 32, 62, 38, 45, 34, 36, 35, 37, 33, 31, 732, 41, 40, 42, 44, 43, 39, 51, 52, 53, 779, 811, 819, 824, 46, 828, 843, 47, 847, 50, 49, 48, 54, 855, 55, 56, 57, 897, 914, 918, 58, 922, 935, 59, 942, 950, 955, 60, 959, 967, 971, 975, 986, 990, 61, 994, 1002, 1010, 63, 1014, 1022, 1026, 1030, 1034, 1038] (by decide +kernel) (by decide +kernel)
theorem tw_ok : ∀ y ∈ m_sts, Cond.static (m_M y).2.1 ∈ m_TB := m_batch m_sts (fun y => Cond.static (m_M y).2.1) [413, 540, 389, 382, 249, 252, 371, 739, 978, 927, 982, 831, 834, 862, 938, 735, 755, 473, 278, 343] (by decide +kernel) (by decide +kernel)
theorem nw_ok : ∀ i ∈ List.range 10, Cond.initialized (m_cn i) ∈ m_TB := m_batch (List.range 10) (fun i => Cond.initialized (m_cn i)) [67, 69, 66, 68, 65, 70, 74, 72, 73, 64] (by decide +kernel) (by decide +kernel)
theorem fw_ok : ∀ q ∈ m_fls, m_fw q ∈ m_TB := m_batch m_fls m_fw m_flp (by decide +kernel) (by decide +kernel)
theorem mw_ok : ∀ q ∈ m_mls, Cond.methodLink (m_cn q.1) q.2.1 (m_M q.2.2).2.1 ∈ m_TB := m_batch m_mls (fun q => Cond.methodLink (m_cn q.1) q.2.1 (m_M q.2.2).2.1) m_mlp (by decide +kernel) (by decide +kernel)
theorem aw_ok : ∀ q ∈ m_acs, Cond.methodLink (m_cn q.1) q.2 arraycopyName ∈ m_TB := m_batch m_acs (fun q => Cond.methodLink (m_cn q.1) q.2 arraycopyName) m_acp (by decide +kernel) (by decide +kernel)
theorem ow_ok : ∀ q ∈ m_cos, Cond.constant (m_cn q.1) q.2.1 q.2.2 ∈ m_TB := m_batch m_cos (fun q => Cond.constant (m_cn q.1) q.2.1 q.2.2) m_cop (by decide +kernel) (by decide +kernel)
theorem lw_ok : ∀ q ∈ m_los, Cond.constantLong (m_cn q.1) q.2.1 q.2.2 ∈ m_TB := m_batch m_los (fun q => Cond.constantLong (m_cn q.1) q.2.1 q.2.2) m_lop (by decide +kernel) (by decide +kernel)
theorem zw_ok : ∀ w ∈ ([.native arraycopyName, .static arraycopyName, .initialized "java/lang/System"] : List Cond), w ∈ m_TB := m_batch ([.native arraycopyName, .static arraycopyName, .initialized "java/lang/System"] : List Cond) (fun w => w) [272, 271, 71] (by decide +kernel) (by decide +kernel)
theorem uw_0 : ∀ w ∈ u_ws "RainRead$Fall" m_T0 8, w ∈ m_TB := m_batch (u_ws "RainRead$Fall" m_T0 8) (fun w => w) [156, 158, 160, 162, 164, 166, 168, 170] (by decide +kernel) (by decide +kernel)
theorem ty_0 : ∀ k, k < 8 → parseFieldDescriptor (m_T0 k).2.2.1 = some (m_y0 k) := by decide +kernel
theorem nn_0 : ∀ a, a < 8 → ∀ b, b < 8 → a ≠ b → (m_T0 a).2.1 ≠ (m_T0 b).2.1 := by decide +kernel
theorem uw_1 : ∀ w ∈ u_ws "RainRead$Sheet" m_T1 4, w ∈ m_TB := m_batch (u_ws "RainRead$Sheet" m_T1 4) (fun w => w) [204, 206, 208, 210] (by decide +kernel) (by decide +kernel)
theorem ty_1 : ∀ k, k < 4 → parseFieldDescriptor (m_T1 k).2.2.1 = some (m_y1 k) := by decide +kernel
theorem nn_1 : ∀ a, a < 4 → ∀ b, b < 4 → a ≠ b → (m_T1 a).2.1 ≠ (m_T1 b).2.1 := by decide +kernel
theorem uw_2 : ∀ w ∈ u_ws "RainRead$Shower" m_T2 8, w ∈ m_TB := m_batch (u_ws "RainRead$Shower" m_T2 8) (fun w => w) [116, 118, 120, 122, 124, 126, 128, 130] (by decide +kernel) (by decide +kernel)
theorem ty_2 : ∀ k, k < 8 → parseFieldDescriptor (m_T2 k).2.2.1 = some (m_y2 k) := by decide +kernel
theorem nn_2 : ∀ a, a < 8 → ∀ b, b < 8 → a ≠ b → (m_T2 a).2.1 ≠ (m_T2 b).2.1 := by decide +kernel
theorem uw_3 : ∀ w ∈ u_ws "RainRead$TextReader" m_T3 3, w ∈ m_TB := m_batch (u_ws "RainRead$TextReader" m_T3 3) (fun w => w) [182, 184, 186] (by decide +kernel) (by decide +kernel)
theorem ty_3 : ∀ k, k < 3 → parseFieldDescriptor (m_T3 k).2.2.1 = some (m_y3 k) := by decide +kernel
theorem nn_3 : ∀ a, a < 3 → ∀ b, b < 3 → a ≠ b → (m_T3 a).2.1 ≠ (m_T3 b).2.1 := by decide +kernel
theorem uw_4 : ∀ w ∈ u_ws "RainRead" m_T4 10, w ∈ m_TB := m_batch (u_ws "RainRead" m_T4 10) (fun w => w) [223, 225, 227, 229, 231, 233, 235, 237, 239, 241] (by decide +kernel) (by decide +kernel)
theorem ty_4 : ∀ k, k < 10 → parseFieldDescriptor (m_T4 k).2.2.1 = some (m_y4 k) := by decide +kernel
theorem nn_4 : ∀ a, a < 10 → ∀ b, b < 10 → a ≠ b → (m_T4 a).2.1 ≠ (m_T4 b).2.1 := by decide +kernel
theorem uw_5 : ∀ w ∈ u_ws "RainReadModel" m_T5 34, w ∈ m_TB := m_batch (u_ws "RainReadModel" m_T5 34) (fun w => w) [661, 663, 665, 667, 669, 671, 673, 675, 677, 679, 681, 683, 685, 687, 689, 691, 693, 695, 697, 699, 701, 703, 705, 707, 709, 711, 713, 715, 717, 719, 721, 723, 725, 727] (by decide +kernel) (by decide +kernel)
theorem ty_5 : ∀ k, k < 34 → parseFieldDescriptor (m_T5 k).2.2.1 = some (m_y5 k) := by decide +kernel
theorem nn_5 : ∀ a, a < 34 → ∀ b, b < 34 → a ≠ b → (m_T5 a).2.1 ≠ (m_T5 b).2.1 := by decide +kernel
end
section
/-! ===== what the small machine comes to: the least that its steps allow ===== -/
def m_sw (tb : List m_E) (σ : m_St) : Option (Int32 × Nat × List (Int32 × Nat) × (Nat → m_St)) := match σ with
  | (pc, lc, st, D) => match m_find tb pc with
    | some (_, _, op, j, k, _, _, _) => match op with
      | 60 => match st with
        | .int x :: st' => some (x, j, m_sws.getD k [], fun t => (t, lc, st', D))
        | _ => none
      | 61 => match st with
        | .int x :: st' => some (x, j, m_sws.getD k [], fun t => (t, lc, st', D))
        | _ => none
      | _ => none
    | none => none
def m_step (L dp : Nat) (ca : Nat → List Value → m_D → m_K → Prop) (Q : m_K) (tb : List m_E) (rk : Nat) (X : m_St → Prop) (σ : m_St) : Prop :=
  (∃ τ, m_go tb σ = some τ ∧ X τ) ∨
  (∃ q τ ρ, m_br tb σ = some (q, τ, ρ) ∧ (q → X τ) ∧ (¬ q → X ρ)) ∨
  (∃ q τ, m_sd L dp tb σ = some (q, τ) ∧ q ∧ X τ) ∨
  (∃ i js f, m_al tb σ = some (i, js, f) ∧ vp_in i js.length ∧ ∀ q, js[i.toNatClampNeg]? = some q → X (f q)) ∨
  (∃ y as D f, m_ca tb σ = some (y, as, D, f) ∧ ca y as D (fun r D' => X (f r D'))) ∨
  (∃ q r D, m_rt tb rk σ = some (q, r, D) ∧ q ∧ Q r D) ∨
  (∃ x d cs f, m_sw tb σ = some (x, d, cs, f) ∧ m_cs (fun t => X (f t)) x d cs)
def m_WP (L dp : Nat) (ca : Nat → List Value → m_D → m_K → Prop) (Q : m_K) (tb : List m_E) (rk : Nat) (σ : m_St) : Prop :=
  ∀ X : m_St → Prop, (∀ τ, m_step L dp ca Q tb rk X τ → X τ) → X σ
/-- the places with which a method begins -/
def m_ent {β : Type} : Nat → List Value → (m_Lc → Option β) → Option β
  | 0, [], f => f []
  | 0, _ :: _, _ => none
  | n + 1, [], f => m_ent n [] (fun t => f (none :: t))
  | _ + 1, .double _ :: _, _ => none
  | n + 2, .long x :: vs, f => m_ent n vs (fun t => f (some (.long x) :: none :: t))
  | 1, .long _ :: _, _ => none
  | n + 1, v :: vs, f => m_ent n vs (fun t => f (some v :: t))
def m_call (L : Nat) : Nat → Nat → List Value → m_D → m_K → Prop
  | 0, _, _, _, _ => False
  | d + 1, y, as, D, Q => ∃ lc, m_ent (m_M y).2.2.2.1 as (fun lc => some lc) = some lc ∧ m_WP L d (m_call L d) Q (m_M y).2.2.2.2.2.2.2.2 (m_M y).2.2.2.2.2.1 (0, lc, [], D)
theorem m_cs_mono {X Y : Nat → Prop} (h : ∀ t, X t → Y t) {x : Int32} {d : Nat} : ∀ cs : List (Int32 × Nat), m_cs X x d cs → m_cs Y x d cs
  | [], a => h _ a
  | (_, _) :: r, a => ⟨fun q => h _ (a.1 q), fun q => m_cs_mono h r (a.2 q)⟩
theorem m_step_mono {L dp : Nat} {ca : Nat → List Value → m_D → m_K → Prop} {Q : m_K} {tb : List m_E} {rk : Nat} {X Y : m_St → Prop} {σ : m_St} (hca : ∀ y as D (K K' : m_K), (∀ r D', K r D' → K' r D') → ca y as D K → ca y as D K') (h : ∀ τ, X τ → Y τ) (hs : m_step L dp ca Q tb rk X σ) : m_step L dp ca Q tb rk Y σ := by
  rcases hs with ⟨τ, a, b⟩ | ⟨q, τ, ρ, a, b, b'⟩ | ⟨q, τ, a, b, b'⟩ | ⟨i, js, f, a, b, b'⟩ | ⟨y, as, D, f, a, b⟩ | ⟨q, r, D, a, b, b'⟩ | ⟨x, d, cs, f, a, b⟩
  · exact Or.inl ⟨τ, a, h _ b⟩
  · exact Or.inr (Or.inl ⟨q, τ, ρ, a, fun z => h _ (b z), fun z => h _ (b' z)⟩)
  · exact Or.inr (Or.inr (Or.inl ⟨q, τ, a, b, h _ b'⟩))
  · exact Or.inr (Or.inr (Or.inr (Or.inl ⟨i, js, f, a, b, fun q z => h _ (b' q z)⟩)))
  · exact Or.inr (Or.inr (Or.inr (Or.inr (Or.inl ⟨y, as, D, f, a, hca _ _ _ _ _ (fun r D' z => h _ z) b⟩))))
  · exact Or.inr (Or.inr (Or.inr (Or.inr (Or.inr (Or.inl ⟨q, r, D, a, b, b'⟩)))))
  · exact Or.inr (Or.inr (Or.inr (Or.inr (Or.inr (Or.inr ⟨x, d, cs, f, a, m_cs_mono (fun t z => h _ z) cs b⟩)))))
theorem m_WP_step {L dp : Nat} {ca : Nat → List Value → m_D → m_K → Prop} {Q : m_K} {tb : List m_E} {rk : Nat} {σ : m_St} (hca : ∀ y as D (K K' : m_K), (∀ r D', K r D' → K' r D') → ca y as D K → ca y as D K') (hs : m_step L dp ca Q tb rk (m_WP L dp ca Q tb rk) σ) : m_WP L dp ca Q tb rk σ :=
  fun X hX => hX σ (m_step_mono hca (fun _ z => z X hX) hs)
theorem m_WP_post {L dp : Nat} {ca : Nat → List Value → m_D → m_K → Prop} {Q Q' : m_K} {tb : List m_E} {rk : Nat} {σ : m_St} (h : ∀ r D, Q r D → Q' r D) (hw : m_WP L dp ca Q tb rk σ) : m_WP L dp ca Q' tb rk σ := by
  intro X hX
  refine hw X (fun τ hs => hX τ ?_)
  rcases hs with a | a | a | a | a | ⟨q, r, D, a, b, b'⟩ | a
  · exact Or.inl a
  · exact Or.inr (Or.inl a)
  · exact Or.inr (Or.inr (Or.inl a))
  · exact Or.inr (Or.inr (Or.inr (Or.inl a)))
  · exact Or.inr (Or.inr (Or.inr (Or.inr (Or.inl a))))
  · exact Or.inr (Or.inr (Or.inr (Or.inr (Or.inr (Or.inl ⟨q, r, D, a, b, h _ _ b'⟩)))))
  · exact Or.inr (Or.inr (Or.inr (Or.inr (Or.inr (Or.inr a)))))
theorem m_call_post (L : Nat) : ∀ (d y : Nat) (as : List Value) (D : m_D) (K K' : m_K), (∀ r D', K r D' → K' r D') → m_call L d y as D K → m_call L d y as D K'
  | 0, _, _, _, _, _, _, h => h
  | _ + 1, _, _, _, _, _, h, ⟨lc, a, b⟩ => ⟨lc, a, m_WP_post h b⟩
/-! the rows with which a method is walked -/
abbrev m_V (L d : Nat) (Q : m_K) (tb : List m_E) (rk : Nat) (σ : m_St) : Prop := m_WP L d (m_call L d) Q tb rk σ
def m_run (tb : List m_E) : Nat → m_St → Option m_St
  | 0, σ => some σ
  | n + 1, σ => match m_go tb σ with
    | some τ => m_run tb n τ
    | none => some σ
section MV
variable {L d : Nat} {Q : m_K} {tb : List m_E} {rk : Nat} {σ τ ρ : m_St}
theorem v_run : ∀ (n : Nat) {σ τ : m_St}, m_run tb n σ = some τ → m_V L d Q tb rk τ → m_V L d Q tb rk σ
  | 0, σ, τ, h, k => by cases h; exact k
  | n + 1, σ, τ, h, k => by
    cases hg : m_go tb σ with
    | none =>
      have h : (match m_go tb σ with
        | some τ => m_run tb n τ
        | none => some σ) = some τ := h
      rw [hg] at h
      cases h
      exact k
    | some ρ =>
      have h : (match m_go tb σ with
        | some τ => m_run tb n τ
        | none => some σ) = some τ := h
      rw [hg] at h
      exact m_WP_step (m_call_post L d) (Or.inl ⟨ρ, hg, v_run n h k⟩)
theorem v_go (h : m_run tb 400 σ = some τ) (k : m_V L d Q tb rk τ) : m_V L d Q tb rk σ := v_run 400 h k
theorem v_g1 (h : m_go tb σ = some τ) (k : m_V L d Q tb rk τ) : m_V L d Q tb rk σ := m_WP_step (m_call_post L d) (Or.inl ⟨τ, h, k⟩)
theorem v_br {q : Prop} (h : m_br tb σ = some (q, τ, ρ)) (a : q → m_V L d Q tb rk τ) (b : ¬ q → m_V L d Q tb rk ρ) : m_V L d Q tb rk σ := m_WP_step (m_call_post L d) (Or.inr (Or.inl ⟨q, τ, ρ, h, a, b⟩))
theorem v_sd {q : Prop} (h : m_sd L d tb σ = some (q, τ)) (hq : q) (k : m_V L d Q tb rk τ) : m_V L d Q tb rk σ := m_WP_step (m_call_post L d) (Or.inr (Or.inr (Or.inl ⟨q, τ, h, hq, k⟩)))
theorem v_al {i : Int32} {js : List Nat} {f : Nat → m_St} (h : m_al tb σ = some (i, js, f)) (hi : vp_in i js.length) (k : ∀ q, js[i.toNatClampNeg]? = some q → m_V L d Q tb rk (f q)) : m_V L d Q tb rk σ := m_WP_step (m_call_post L d) (Or.inr (Or.inr (Or.inr (Or.inl ⟨i, js, f, h, hi, k⟩))))
theorem v_ca {y : Nat} {as : List Value} {D : m_D} {f : Option Value → m_D → m_St} (h : m_ca tb σ = some (y, as, D, f)) (k : m_call L d y as D (fun r D' => m_V L d Q tb rk (f r D'))) : m_V L d Q tb rk σ := m_WP_step (m_call_post L d) (Or.inr (Or.inr (Or.inr (Or.inr (Or.inl ⟨y, as, D, f, h, k⟩)))))
theorem v_rt {q : Prop} {r : Option Value} {D : m_D} (h : m_rt tb rk σ = some (q, r, D)) (hq : q) (k : Q r D) : m_V L d Q tb rk σ := m_WP_step (m_call_post L d) (Or.inr (Or.inr (Or.inr (Or.inr (Or.inr (Or.inl ⟨q, r, D, h, hq, k⟩))))))
theorem v_sw {x : Int32} {t : Nat} {cs : List (Int32 × Nat)} {f : Nat → m_St} (h : m_sw tb σ = some (x, t, cs, f)) (k : m_cs (fun t => m_V L d Q tb rk (f t)) x t cs) : m_V L d Q tb rk σ := m_WP_step (m_call_post L d) (Or.inr (Or.inr (Or.inr (Or.inr (Or.inr (Or.inr ⟨x, t, cs, f, h, k⟩))))))
/-- a method begins -/
theorem v_in {y rk' : Nat} {as : List Value} {D : m_D} {lc : m_Lc} {tb' : List m_E} (ht : (m_M y).2.2.2.2.2.2.2.2 = tb') (hr : (m_M y).2.2.2.2.2.1 = rk') (h : m_ent (m_M y).2.2.2.1 as (fun lc => some lc) = some lc) (k : m_V L d Q tb' rk' (0, lc, [], D)) : m_call L (d + 1) y as D Q := ⟨lc, h, by rw [ht, hr]; exact k⟩
end MV
end
section
/-! ===== the real machine does what the small one does ===== -/
def m_va (ad : Nat → Nat) : Value → Value
  | .ref i => .ref (ad i)
  | v => v
theorem m_va_cat (ad : Nat → Nat) (v : Value) : (m_va ad v).category = v.category := by cases v <;> rfl
def m_ele (ad : Nat → Nat) (cI cR : ClassId) (D : m_D) (i : Nat) : m_Sh → va_E
  | .inl n => .inl (cI, n, .inl (D i))
  | .inr (.inl js) => .inl (cR, js.length, .inr (.inr (.inr (.inr (fun k => (js[k]?).map ad)))))
  | .inr (.inr (ci, fs)) => .inr (ci, fs.mapIdx (fun k o => match o with
    | some q => Value.ref (ad q)
    | none => Value.int (D i k)))
def m_w (ad : Nat → Nat) (cI cR : ClassId) (D : m_D) : va_W := m_shp.mapIdx (fun i sh => (ad i, m_ele ad cI cR D i sh))
theorem m_w_get (ad : Nat → Nat) (cI cR : ClassId) (D : m_D) (i : Nat) : (m_w ad cI cR D)[i]? = (m_shp[i]?).map (fun sh => (ad i, m_ele ad cI cR D i sh)) := by
  simp [m_w]
theorem m_w_at {ad : Nat → Nat} {cI cR : ClassId} {D : m_D} {i : Nat} {sh : m_Sh} (h : m_shp[i]? = some sh) : (m_w ad cI cR D)[i]? = some (ad i, m_ele ad cI cR D i sh) := by
  rw [m_w_get, h]; rfl
theorem m_ele_c {ad : Nat → Nat} {cI cR : ClassId} {D D' : m_D} {i : Nat} (h : D i = D' i) (sh : m_Sh) : m_ele ad cI cR D i sh = m_ele ad cI cR D' i sh := by
  rcases sh with n | js | ⟨ci, fs⟩
  · simp only [m_ele, h]
  · rfl
  · simp only [m_ele, h]
/-- one cell becomes another: the world of the new contents -/
theorem m_w_set {ad : Nat → Nat} {cI cR : ClassId} {D D' : m_D} {i : Nat} {sh : m_Sh} {x : va_E} (h : m_shp[i]? = some sh) (hx : x = m_ele ad cI cR D' i sh) (ho : ∀ a, a ≠ i → D' a = D a) : (m_w ad cI cR D).set i (ad i, x) = m_w ad cI cR D' := by
  apply List.ext_getElem?
  intro k
  by_cases hk : k = i
  · subst hk
    have hl : k < (m_w ad cI cR D).length := (List.getElem?_eq_some_iff.mp (m_w_at (ad := ad) (cI := cI) (cR := cR) (D := D) h)).1
    rw [List.getElem?_set_self hl, m_w_at h, hx]
  · rw [List.getElem?_set_ne (Ne.symm hk), m_w_get, m_w_get]
    cases m_shp[k]? with
    | none => rfl
    | some s => simp only [Option.map_some]; rw [m_ele_c (ho k hk)]
theorem m_up_ne {D : m_D} {i j a : Nat} {v : Int32} (h : a ≠ i) : m_up D i j v a = D a := if_neg h
theorem m_up_at {D : m_D} {i j : Nat} {v : Int32} : m_up D i j v i = upd (D i) j v := if_pos rfl
theorem m_cp_ne {D : m_D} {a0 a1 sp dp n a : Nat} (h : a ≠ a1) : m_cp D a0 a1 sp dp n a = D a := if_neg h
theorem m_cp_at {D : m_D} {a0 a1 sp dp n : Nat} : m_cp D a0 a1 sp dp n a1 = va_cpy (D a0) (D a1) sp dp n := if_pos rfl
theorem m_w_arr {ad : Nat → Nat} {cI cR : ClassId} {D : m_D} {i n j : Nat} {x : Int32} (h : m_shp[i]? = some (.inl n)) : (m_w ad cI cR D).set i (ad i, .inl (cI, n, .inl (upd (D i) j x))) = m_w ad cI cR (m_up D i j x) :=
  m_w_set h (by simp only [m_ele, m_up_at]) (fun _ ha => m_up_ne ha)
theorem m_w_cpy {ad : Nat → Nat} {cI cR : ClassId} {D : m_D} {a0 i n sp dp z : Nat} (h : m_shp[i]? = some (.inl n)) : (m_w ad cI cR D).set i (ad i, .inl (cI, n, .inl (va_cpy (D a0) (D i) sp dp z))) = m_w ad cI cR (m_cp D a0 i sp dp z) :=
  m_w_set h (by simp only [m_ele, m_cp_at]) (fun _ ha => m_cp_ne ha)
theorem m_w_fld {ad : Nat → Nat} {cI cR : ClassId} {D : m_D} {i ci k : Nat} {fs : List (Option Nat)} {x : Int32} (h : m_shp[i]? = some (.inr (.inr (ci, fs)))) (hk : fs[k]? = some none) : (m_w ad cI cR D).set i (ad i, .inr (ci, (fs.mapIdx (fun k o => match o with
    | some q => Value.ref (ad q)
    | none => Value.int (D i k))).set k (.int x))) = m_w ad cI cR (m_up D i k x) := by
  refine m_w_set h ?_ (fun _ ha => m_up_ne ha)
  simp only [m_ele, m_up_at]
  congr 2
  apply List.ext_getElem?
  intro a
  have hl : k < fs.length := (List.getElem?_eq_some_iff.mp hk).1
  by_cases ha : a = k
  · subst ha
    rw [List.getElem?_set_self (by simpa using hl), List.getElem?_mapIdx, hk]
    simp [upd]
  · rw [List.getElem?_set_ne (Ne.symm ha), List.getElem?_mapIdx, List.getElem?_mapIdx]
    cases fs[a]? with
    | none => rfl
    | some o => cases o <;> simp [upd, ha]
def m_LR (ad : Nat → Nat) (ls : Array Slot) (nL : Nat) (lc : m_Lc) : Prop := ls.size = nL ∧ lv_wf ls ∧ lc.length = nL ∧ ∀ (i : Nat) (v : Value), lc[i]? = some (some v) → ls[i]? = some (.val (m_va ad v))
def m_pl (ad : Nat → Nat) : Nat → m_Lc → List (Nat × Value)
  | _, [] => []
  | k, none :: t => m_pl ad (k + 1) t
  | k, some v :: t => (k, m_va ad v) :: m_pl ad (k + 1) t
theorem m_pl_in (ad : Nat → Nat) : ∀ (lc : m_Lc) (k i : Nat) (v : Value), lc[i]? = some (some v) → (k + i, m_va ad v) ∈ m_pl ad k lc
  | [], _, _, _, h => by simp at h
  | none :: t, k, 0, v, h => by simp at h
  | some u :: t, k, 0, v, h => by
    have : u = v := by simpa using h
    subst this
    exact List.mem_cons_self
  | none :: t, k, i + 1, v, h => by
    have := m_pl_in ad t (k + 1) i v (by simpa using h)
    rw [show k + (i + 1) = k + 1 + i by omega]
    exact this
  | some u :: t, k, i + 1, v, h => by
    have := m_pl_in ad t (k + 1) i v (by simpa using h)
    rw [show k + (i + 1) = k + 1 + i by omega]
    exact List.mem_cons_of_mem _ this
theorem m_pl_out (ad : Nat → Nat) : ∀ (lc : m_Lc) (k : Nat) (q : Nat × Value), q ∈ m_pl ad k lc → ∃ i v, q = (k + i, m_va ad v) ∧ lc[i]? = some (some v)
  | [], _, _, h => by cases h
  | none :: t, k, q, h => by
    obtain ⟨i, v, e, hv⟩ := m_pl_out ad t (k + 1) q h
    exact ⟨i + 1, v, by rw [e]; congr 1; omega, by simpa using hv⟩
  | some u :: t, k, q, h => by
    rcases List.mem_cons.mp h with e | h
    · exact ⟨0, u, e, by simp⟩
    · obtain ⟨i, v, e, hv⟩ := m_pl_out ad t (k + 1) q h
      exact ⟨i + 1, v, by rw [e]; congr 1; omega, by simpa using hv⟩
theorem m_LR.has {ad : Nat → Nat} {ls : Array Slot} {nL : Nat} {lc : m_Lc} (h : m_LR ad ls nL lc) : lv_has ls nL (m_pl ad 0 lc) := by
  refine ⟨h.1, h.2.1, fun q hq => ?_⟩
  obtain ⟨i, v, e, hv⟩ := m_pl_out ad lc 0 q hq
  rw [e]
  show ls[0 + i]? = _
  rw [Nat.zero_add]
  exact h.2.2.2 i v hv
theorem m_get_spec {β : Type} : ∀ (lc : m_Lc) (j : Nat) (f : Value → Option β) (r : β), m_get lc j f = some r → ∃ v, lc[j]? = some (some v) ∧ f v = some r
  | [], _, _, _, h => by cases h
  | none :: _, 0, _, _, h => by cases h
  | some v :: _, 0, f, r, h => ⟨v, rfl, h⟩
  | none :: t, n + 1, f, r, h => by
    obtain ⟨v, a, b⟩ := m_get_spec t n f r h
    exact ⟨v, by simpa using a, b⟩
  | some _ :: t, n + 1, f, r, h => by
    obtain ⟨v, a, b⟩ := m_get_spec t n f r h
    exact ⟨v, by simpa using a, b⟩
/-- what a store leaves -/
def m_left (lc lc' : m_Lc) (j : Nat) (v : Value) : Prop := lc'.length = lc.length ∧ j < lc.length ∧ ∀ (i : Nat) (u : Value), lc'[i]? = some (some u) → (i = j ∧ u = v) ∨ (i ≠ j ∧ lc[i]? = some (some u) ∧ ¬ (i + 1 = j ∧ u.category = 2))
theorem m_left_s {lc lc' : m_Lc} {j : Nat} {v : Value} {o : Option Value} (h : m_left lc lc' j v) (hj : ∀ u, o = some u → j = 0 → ¬ u.category = 2) : m_left (o :: lc) (o :: lc') (j + 1) v := by
  refine ⟨by simp [h.1], by simp [h.2.1], fun i u hu => ?_⟩
  cases i with
  | zero =>
    have e : o = some u := by simpa using hu
    exact Or.inr ⟨by omega, by simpa using e, fun q => hj u e (by omega) q.2⟩
  | succ i =>
    rcases h.2.2 i u (by simpa using hu) with ⟨a, b⟩ | ⟨a, b, c⟩
    · exact Or.inl ⟨by omega, b⟩
    · exact Or.inr ⟨by omega, by simpa using b, fun q => c ⟨by omega, q.2⟩⟩
theorem m_left_n {lc lc' : m_Lc} {j : Nat} {v : Value} {o : Option Value} (h : m_left lc lc' j v) : m_left (o :: lc) (none :: lc') (j + 1) v := by
  refine ⟨by simp [h.1], by simp [h.2.1], fun i u hu => ?_⟩
  cases i with
  | zero => simp at hu
  | succ i =>
    rcases h.2.2 i u (by simpa using hu) with ⟨a, b⟩ | ⟨a, b, c⟩
    · exact Or.inl ⟨by omega, b⟩
    · exact Or.inr ⟨by omega, by simpa using b, fun q => c ⟨by omega, q.2⟩⟩
theorem m_left_0 {t : m_Lc} {o : Option Value} {v : Value} : m_left (o :: t) (some v :: t) 0 v := by
  refine ⟨rfl, by simp, fun i u hu => ?_⟩
  cases i with
  | zero => exact Or.inl ⟨rfl, by simpa using hu.symm⟩
  | succ i => exact Or.inr ⟨by omega, by simpa using hu, by omega⟩
theorem m_set_spec {β : Type} {v : Value} : ∀ (lc : m_Lc) (j : Nat) (f : m_Lc → Option β) (r : β), m_set lc j v f = some r → ∃ lc', f lc' = some r ∧ m_left lc lc' j v
  | [], _, _, _, h => by cases h
  | o :: t, 0, f, r, h => by
    have h : f (some v :: t) = some r := by cases o <;> exact h
    exact ⟨_, h, m_left_0⟩
  | o :: t, n + 1, f, r, h => by
    have key : (∃ u, o = some u ∧ u.category = 2 ∧ n = 0 ∧ m_set t 0 v (fun t' => f (none :: t')) = some r) ∨ ((∀ u, o = some u → n = 0 → ¬ u.category = 2) ∧ m_set t n v (fun t' => f (o :: t')) = some r) := by
      cases n with
      | zero =>
        cases o with
        | none => exact Or.inr ⟨fun u q => by simp at q, h⟩
        | some u =>
          cases u with
          | long x => exact Or.inl ⟨_, rfl, rfl, rfl, h⟩
          | double x => exact Or.inl ⟨_, rfl, rfl, rfl, h⟩
          | int x => exact Or.inr ⟨fun u q => by cases q; simp [Value.category], h⟩
          | float x => exact Or.inr ⟨fun u q => by cases q; simp [Value.category], h⟩
          | null => exact Or.inr ⟨fun u q => by cases q; simp [Value.category], h⟩
          | ref x => exact Or.inr ⟨fun u q => by cases q; simp [Value.category], h⟩
          | retAddr x => exact Or.inr ⟨fun u q => by cases q; simp [Value.category], h⟩
      | succ n =>
        refine Or.inr ⟨fun u _ q => by omega, ?_⟩
        cases o with
        | none => exact h
        | some u => cases u <;> exact h
    rcases key with ⟨u, e1, e2, e3, h2⟩ | ⟨g, h2⟩
    · subst e3
      obtain ⟨lc', a, b⟩ := m_set_spec t 0 _ r h2
      exact ⟨_, a, m_left_n b⟩
    · obtain ⟨lc', a, b⟩ := m_set_spec t n _ r h2
      exact ⟨_, a, m_left_s b g⟩
def m_left2 (lc lc' : m_Lc) (j : Nat) (v : Value) : Prop := lc'.length = lc.length ∧ j + 1 < lc.length ∧ ∀ (i : Nat) (u : Value), lc'[i]? = some (some u) → (i = j ∧ u = v) ∨ (i ≠ j ∧ i ≠ j + 1 ∧ lc[i]? = some (some u) ∧ ¬ (i + 1 = j ∧ u.category = 2))
theorem m_left2_s {lc lc' : m_Lc} {j : Nat} {v : Value} {o : Option Value} (h : m_left2 lc lc' j v) (hj : ∀ u, o = some u → j = 0 → ¬ u.category = 2) : m_left2 (o :: lc) (o :: lc') (j + 1) v := by
  refine ⟨by simp [h.1], by simp [h.2.1], fun i u hu => ?_⟩
  cases i with
  | zero =>
    have e : o = some u := by simpa using hu
    exact Or.inr ⟨by omega, by omega, by simpa using e, fun q => hj u e (by omega) q.2⟩
  | succ i =>
    rcases h.2.2 i u (by simpa using hu) with ⟨a, b⟩ | ⟨a, a', b, c⟩
    · exact Or.inl ⟨by omega, b⟩
    · exact Or.inr ⟨by omega, by omega, by simpa using b, fun q => c ⟨by omega, q.2⟩⟩
theorem m_left2_n {lc lc' : m_Lc} {j : Nat} {v : Value} {o : Option Value} (h : m_left2 lc lc' j v) : m_left2 (o :: lc) (none :: lc') (j + 1) v := by
  refine ⟨by simp [h.1], by simp [h.2.1], fun i u hu => ?_⟩
  cases i with
  | zero => simp at hu
  | succ i =>
    rcases h.2.2 i u (by simpa using hu) with ⟨a, b⟩ | ⟨a, a', b, c⟩
    · exact Or.inl ⟨by omega, b⟩
    · exact Or.inr ⟨by omega, by omega, by simpa using b, fun q => c ⟨by omega, q.2⟩⟩
theorem m_left2_0 {t : m_Lc} {o o' : Option Value} {v : Value} : m_left2 (o :: o' :: t) (some v :: none :: t) 0 v := by
  refine ⟨rfl, by simp, fun i u hu => ?_⟩
  match i, hu with
  | 0, hu => exact Or.inl ⟨rfl, by simpa using hu.symm⟩
  | 1, hu => simp at hu
  | i + 2, hu => exact Or.inr ⟨by omega, by omega, by simpa using hu, by omega⟩
theorem m_set2_spec {β : Type} {v : Value} : ∀ (lc : m_Lc) (j : Nat) (f : m_Lc → Option β) (r : β), m_set2 lc j v f = some r → ∃ lc', f lc' = some r ∧ m_left2 lc lc' j v
  | [], _, _, _, h => by cases h
  | [_], _, _, _, h => by cases h
  | o :: o' :: t, 0, f, r, h => by
    have h : f (some v :: none :: t) = some r := by cases o <;> exact h
    exact ⟨_, h, m_left2_0⟩
  | o :: o' :: t, n + 1, f, r, h => by
    have key : (∃ u, o = some u ∧ u.category = 2 ∧ n = 0 ∧ m_set2 (o' :: t) 0 v (fun t' => f (none :: t')) = some r) ∨ ((∀ u, o = some u → n = 0 → ¬ u.category = 2) ∧ m_set2 (o' :: t) n v (fun t' => f (o :: t')) = some r) := by
      cases n with
      | zero =>
        cases o with
        | none => exact Or.inr ⟨fun u q => by simp at q, h⟩
        | some u =>
          cases u with
          | long x => exact Or.inl ⟨_, rfl, rfl, rfl, h⟩
          | double x => exact Or.inl ⟨_, rfl, rfl, rfl, h⟩
          | int x => exact Or.inr ⟨fun u q => by cases q; simp [Value.category], h⟩
          | float x => exact Or.inr ⟨fun u q => by cases q; simp [Value.category], h⟩
          | null => exact Or.inr ⟨fun u q => by cases q; simp [Value.category], h⟩
          | ref x => exact Or.inr ⟨fun u q => by cases q; simp [Value.category], h⟩
          | retAddr x => exact Or.inr ⟨fun u q => by cases q; simp [Value.category], h⟩
      | succ n =>
        refine Or.inr ⟨fun u _ q => by omega, ?_⟩
        cases o with
        | none => exact h
        | some u => cases u <;> exact h
    rcases key with ⟨u, e1, e2, e3, h2⟩ | ⟨g, h2⟩
    · subst e3
      obtain ⟨lc', a, b⟩ := m_set2_spec (o' :: t) 0 _ r h2
      exact ⟨_, a, m_left2_n b⟩
    · obtain ⟨lc', a, b⟩ := m_set2_spec (o' :: t) n _ r h2
      exact ⟨_, a, m_left2_s b g⟩
theorem m_LR.st {ad : Nat → Nat} {ls ls' : Array Slot} {nL j : Nat} {lc lc' : m_Lc} {v : Value} (h : m_LR ad ls nL lc) (hl : m_left lc lc' j v) (h' : lv_has ls' nL ((j, m_va ad v) :: (m_pl ad 0 lc).filter (fun q => !(q.1 == j) && !(q.1 + 1 == j && q.2.category == 2)))) : m_LR ad ls' nL lc' := by
  refine ⟨h'.1, h'.2.1, by rw [hl.1]; exact h.2.2.1, fun i u hu => ?_⟩
  rcases hl.2.2 i u hu with ⟨rfl, rfl⟩ | ⟨a, b, c⟩
  · exact h'.2.2 (i, m_va ad u) List.mem_cons_self
  · refine h'.2.2 (i, m_va ad u) (List.mem_cons_of_mem _ (List.mem_filter.mpr ⟨?_, ?_⟩))
    · have := m_pl_in ad lc 0 i u b
      rwa [Nat.zero_add] at this
    · simp only [Bool.and_eq_true, Bool.not_eq_true', beq_eq_false_iff_ne, ne_eq, Bool.and_eq_false_iff, m_va_cat]
      refine ⟨a, ?_⟩
      by_cases q : i + 1 = j
      · exact Or.inr (fun z => c ⟨q, z⟩)
      · exact Or.inl q
theorem m_LR.st2 {ad : Nat → Nat} {ls ls' : Array Slot} {nL j : Nat} {lc lc' : m_Lc} {v : Value} (h : m_LR ad ls nL lc) (hl : m_left2 lc lc' j v) (h' : lv_has ls' nL ((j, m_va ad v) :: (m_pl ad 0 lc).filter (fun q => !(q.1 == j) && (!(q.1 == j + 1) && !(q.1 + 1 == j && q.2.category == 2))))) : m_LR ad ls' nL lc' := by
  refine ⟨h'.1, h'.2.1, by rw [hl.1]; exact h.2.2.1, fun i u hu => ?_⟩
  rcases hl.2.2 i u hu with ⟨rfl, rfl⟩ | ⟨a, a', b, c⟩
  · exact h'.2.2 (i, m_va ad u) List.mem_cons_self
  · refine h'.2.2 (i, m_va ad u) (List.mem_cons_of_mem _ (List.mem_filter.mpr ⟨?_, ?_⟩))
    · have := m_pl_in ad lc 0 i u b
      rwa [Nat.zero_add] at this
    · simp only [Bool.and_eq_true, Bool.not_eq_true', beq_eq_false_iff_ne, ne_eq, Bool.and_eq_false_iff, m_va_cat]
      refine ⟨a, a', ?_⟩
      by_cases q : i + 1 = j
      · exact Or.inr (fun z => c ⟨q, z⟩)
      · exact Or.inl q
theorem m_find_spec {pc : Nat} {e : m_E} : ∀ (tb : List m_E), m_find tb pc = some e → e ∈ tb ∧ e.1 = pc
  | [], h => by cases h
  | a :: t, h => by
    have h : (match Nat.beq a.1 pc with
      | true => some a
      | false => m_find t pc) = some e := h
    cases hb : Nat.beq a.1 pc with
    | true =>
      rw [hb] at h
      cases h
      exact ⟨List.mem_cons_self, Nat.eq_of_beq_eq_true hb⟩
    | false =>
      rw [hb] at h
      obtain ⟨x, y⟩ := m_find_spec t h
      exact ⟨List.mem_cons_of_mem _ x, y⟩
theorem m_is_spec {b : ByteArray} {pc n nx : Nat} {i : Instr} (h : m_is b pc i n nx = true) : decode b pc = .ok (i, n) ∧ nx = pc + n := by
  have h : (decide (decode b pc = .ok (i, n)) && decide (nx = pc + n)) = true := h
  simpa only [Bool.and_eq_true, decide_eq_true_eq] using h
theorem m_to_spec {pc j : Nat} {n : Int} (h : m_to pc n j = true) : (pc : Int) + n = (j : Int) := of_decide_eq_true h
theorem m_and {a b : Bool} (h : (a && b) = true) : a = true ∧ b = true := by simpa using h
theorem m_fin {j : Nat} (h : j < 4) : ((m_fin4 j : Fin 4) : Nat) = j := Nat.mod_eq_of_lt h
theorem m_ld_spec {b : ByteArray} {pc j k nx : Nat} {f : Fin 4 → Instr} {g : Nat → Instr} (h : m_ld b pc j k nx f g = true) : (decode b pc = .ok (f (m_fin4 j), 1) ∧ nx = pc + 1 ∧ j < 4) ∨ (decode b pc = .ok (g j, 2) ∧ nx = pc + 2) := by
  match k, h with
  | 0, h =>
    obtain ⟨a, b⟩ := m_and h
    exact Or.inl ⟨(m_is_spec a).1, (m_is_spec a).2, of_decide_eq_true b⟩
  | k + 1, h => exact Or.inr (m_is_spec h)
theorem m_fld_spec {β : Type} {a ci k : Nat} {f : Option Nat → Option β} {r : β} (h : m_fld a ci k f = some r) : ∃ fs o, m_shp[a]? = some (.inr (.inr (ci, fs))) ∧ fs[k]? = some o ∧ f o = some r := by
  unfold m_fld at h
  split at h
  · rename_i ci' fs hs
    split at h
    · rename_i hb
      split at h
      · rename_i o ho
        rw [Nat.eq_of_beq_eq_true hb] at hs
        exact ⟨fs, o, hs, ho, h⟩
      · cases h
    · cases h
  · cases h
def m_Rl (s : State) (dC : Nat → ClassId) (dI : Nat → Nat → Nat) (cI cR : ClassId) (ad : Nat → Nat) (A : Nat → Prop) (xs : Nat → Int32) (D : m_D) (H : Heap) (locs : List Loc) : Prop :=
  va_P (dC, dI) m_cl (m_w ad cI cR D) H ∧ va_D A (m_w ad cI cR D) ∧ va_S A s.heap H locs ∧ D 60 = xs
def m_X (p : Program) (l : Launch) (e : Env) (R : Room) (s : State) (m : MethodId) (args : Array Value) (below : List Frame) (meth : Method) (c : Code) (cells slots : Nat) (Q : State → Prop) (dC : Nat → ClassId) (dI : Nat → Nat → Nat) (cI cR : ClassId) (ad : Nat → Nat) (A : Nat → Prop) (xs : Nat → Int32) (nL : Nat) (σ : m_St) : Prop :=
  ∀ (H : Heap) (locs : List Loc) (ls : Array Slot), m_Rl s dC dI cI cR ad A xs σ.2.2.2 H locs → m_LR ad ls nL σ.2.1 → W p l e R s m args below meth c H locs cells slots Q (F0 m σ.1 ls (σ.2.2.1.map (m_va ad)))
abbrev m_tys (cI cR : ClassId) : List (ClassId × FieldType) := [(cI, .int), (cR, .object "RainRead$Sheet")]
/-- what stands fast in a method: its machine, bytes, words -/
def m_Cx (p : Program) (s : State) (m : MethodId) (args : Array Value) (c : Code) (dC : Nat → ClassId) (dI : Nat → Nat → Nat) (cI cR : ClassId) (b : ByteArray) (o nL : Nat) : Prop :=
  p.tables.exec = Jvm.exec ∧ c.code = b ∧ c.maxLocals = nL ∧ s.vm.findClass (m_cn o) = some m.cls ∧ (∀ w ∈ m_TB, w.before args s = true) ∧ va_K (dC, dI) m_cl (m_tys cI cR) s
end
section
/-! ===== straight steps ===== -/
theorem m_fk_spec {o j ci k : Nat} (h : m_fk o j ci k = true) : m_fw (o, j, ci, k) ∈ m_TB := fw_ok _ (of_decide_eq_true h)
/-- the kinds of objects: their names, fields, types -/
theorem m_cl_spec {ci : Nat} {C : String} {T : u_T} {N : Nat} (h : m_cl[ci]? = some (C, T, N)) : (∀ w ∈ u_ws C T N, w ∈ m_TB) ∧ (∃ ty : Nat → FieldType, ∀ k, k < N → parseFieldDescriptor (T k).2.2.1 = some (ty k)) ∧ (∀ a, a < N → ∀ b, b < N → a ≠ b → (T a).2.1 ≠ (T b).2.1) := by
  match ci, h with
  | 0, h => cases h; exact ⟨uw_0, ⟨_, ty_0⟩, nn_0⟩
  | 1, h => cases h; exact ⟨uw_1, ⟨_, ty_1⟩, nn_1⟩
  | 2, h => cases h; exact ⟨uw_2, ⟨_, ty_2⟩, nn_2⟩
  | 3, h => cases h; exact ⟨uw_3, ⟨_, ty_3⟩, nn_3⟩
  | 4, h => cases h; exact ⟨uw_4, ⟨_, ty_4⟩, nn_4⟩
  | 5, h => cases h; exact ⟨uw_5, ⟨_, ty_5⟩, nn_5⟩
  | n + 6, h => simp [m_cl] at h
theorem m_fn_spec {ci k : Nat} (h : m_fn ci k = true) : ∃ C T N, m_cl[ci]? = some (C, T, N) ∧ k < N := by
  unfold m_fn at h
  split at h
  · rename_i C T N hc
    exact ⟨C, T, N, hc, of_decide_eq_true h⟩
  · cases h
theorem m_fi_spec {ci k : Nat} {ty : FieldType} (h : m_fi ci k ty = true) : ∃ C T N, m_cl[ci]? = some (C, T, N) ∧ k < N ∧ (T k).2.2.2 = false ∧ parseFieldDescriptor (T k).2.2.1 = some ty := by
  unfold m_fi at h
  split at h
  · rename_i C T N hc
    obtain ⟨h1, h2⟩ := m_and h
    obtain ⟨h1, h3⟩ := m_and h1
    exact ⟨C, T, N, hc, of_decide_eq_true h1, of_decide_eq_true h3, of_decide_eq_true h2⟩
  · cases h
theorem m_fw_eq {o j ci k : Nat} {C : String} {T : u_T} {N : Nat} (h : m_cl[ci]? = some (C, T, N)) : m_fw (o, j, ci, k) = .fieldLink (m_cn o) j (T k).1 (T k).2.1 (T k).2.2.1 := by
  unfold m_fw
  rw [h]
theorem m_shp60 : m_shp[60]? = none := rfl
section SGO
variable {p : Program} {l : Launch} {e : Env} {R : Room} {s : State} {m : MethodId} {args : Array Value} {below : List Frame} {meth : Method} {c : Code} {cells slots : Nat} {Q : State → Prop} {dC : Nat → ClassId} {dI : Nat → Nat → Nat} {cI cR : ClassId} {ad : Nat → Nat} {A : Nat → Prop} {xs : Nat → Int32} {nL o : Nat} {b : ByteArray} {lc : m_Lc} {st : List Value} {D : m_D} {τ : m_St}
theorem m_s_store {pc nx j k : Nat} {v : Value} {f : Fin 4 → Instr} {g : Nat → Instr} (hc : m_ld b pc j k nx f g = true) {lc' : m_Lc} (hlf : m_left lc lc' j v) {H : Heap} {locs : List Loc} {ls : Array Slot} (hl : m_LR ad ls nL lc)
    (h1 : ∀ (hdg : decode b pc = .ok (f (m_fin4 j), 1)) (hi : ((m_fin4 j : Fin 4) : Nat) = j) (h : lv_has ls nL (m_pl ad 0 lc)) (hn : j < nL), (∀ ls' : Array Slot, lv_has ls' nL ((j, m_va ad v) :: (m_pl ad 0 lc).filter (fun q => !(q.1 == j) && !(q.1 + 1 == j && q.2.category == 2))) → W p l e R s m args below meth c H locs cells slots Q (F0 m (pc + 1) ls' (st.map (m_va ad)))) → W p l e R s m args below meth c H locs cells slots Q (F0 m pc ls (m_va ad v :: st.map (m_va ad))))
    (h2 : ∀ (hdg : decode b pc = .ok (g j, 2)) (h : lv_has ls nL (m_pl ad 0 lc)) (hn : j < nL), (∀ ls' : Array Slot, lv_has ls' nL ((j, m_va ad v) :: (m_pl ad 0 lc).filter (fun q => !(q.1 == j) && !(q.1 + 1 == j && q.2.category == 2))) → W p l e R s m args below meth c H locs cells slots Q (F0 m (pc + 2) ls' (st.map (m_va ad)))) → W p l e R s m args below meth c H locs cells slots Q (F0 m pc ls (m_va ad v :: st.map (m_va ad))))
    (k : ∀ ls' : Array Slot, m_LR ad ls' nL lc' → W p l e R s m args below meth c H locs cells slots Q (F0 m nx ls' (st.map (m_va ad)))) : W p l e R s m args below meth c H locs cells slots Q (F0 m pc ls (m_va ad v :: st.map (m_va ad))) := by
  have hn : j < nL := by rw [← hl.2.2.1]; exact hlf.2.1
  rcases m_ld_spec hc with ⟨a, rfl, hj⟩ | ⟨a, rfl⟩
  · exact h1 a (m_fin hj) hl.has hn (fun ls' h' => k ls' (hl.st hlf h'))
  · exact h2 a hl.has hn (fun ls' h' => k ls' (hl.st hlf h'))
set_option maxHeartbeats 4000000 in
theorem m_sim_ex (C : m_Cx p s m args c dC dI cI cR b o nL) (E : m_E) (hc : m_ck b o E = true) (h : m_ex E lc st D = some τ) (k : m_X p l e R s m args below meth c cells slots Q dC dI cI cR ad A xs nL τ) : m_X p l e R s m args below meth c cells slots Q dC dI cI cR ad A xs nL (E.1, lc, st, D) := by
  obtain ⟨hx, hb, hml, hown, hts, hK⟩ := C
  obtain ⟨pc, nx, op, j, kk, n, cv, w⟩ := E
  intro H locs ls hR hl
  show W p l e R s m args below meth c H locs cells slots Q (F0 m pc ls (st.map (m_va ad)))
  have hR' := hR
  obtain ⟨hP, hD, hS, hxs⟩ := hR
  match op, h, hc with
  | 0, h, hc =>
    have h : some (nx, lc, Value.int cv :: st, D) = some τ := h
    cases h
    match kk, hc with
    | 0, hc =>
      obtain ⟨h1, h2⟩ := m_and hc
      obtain ⟨hd, rfl⟩ := m_is_spec h1
      exact lv_iconst hx hb hd (of_decide_eq_true h2) (k H locs ls hR' hl)
    | 1, hc =>
      obtain ⟨h1, h2⟩ := m_and hc
      obtain ⟨hd, rfl⟩ := m_is_spec h1
      exact lv_bipush hx hb hd (of_decide_eq_true h2) (k H locs ls hR' hl)
    | 2, hc =>
      obtain ⟨h1, h2⟩ := m_and hc
      obtain ⟨hd, rfl⟩ := m_is_spec h1
      exact lv_sipush hx hb hd (of_decide_eq_true h2) (k H locs ls hR' hl)
    | z + 3, hc =>
      obtain ⟨h1, h2⟩ := m_and hc
      obtain ⟨hd, rfl⟩ := m_is_spec h1
      exact lv_ldcw hx hb hown (hts _ (ow_ok _ (of_decide_eq_true h2))) hd (k H locs ls hR' hl)
  | 1, h, hc =>
    have h : some (nx, lc, Value.long w :: st, D) = some τ := h
    cases h
    match kk, hc with
    | 0, hc =>
      obtain ⟨h1, h2⟩ := m_and hc
      obtain ⟨hd, rfl⟩ := m_is_spec h1
      exact lv_lconst hx hb hd (by rw [of_decide_eq_true h2]; rfl) (k H locs ls hR' hl)
    | 1, hc =>
      obtain ⟨h1, h2⟩ := m_and hc
      obtain ⟨hd, rfl⟩ := m_is_spec h1
      exact lv_lconst hx hb hd (by rw [of_decide_eq_true h2]; rfl) (k H locs ls hR' hl)
    | z + 2, hc =>
      obtain ⟨h1, h2⟩ := m_and hc
      obtain ⟨hd, rfl⟩ := m_is_spec h1
      exact lv_ldc2 hx hb hown (hts _ (lw_ok _ (of_decide_eq_true h2))) hd (k H locs ls hR' hl)
  | 2, h, hc =>
    obtain ⟨v, hv, h⟩ := m_get_spec _ _ _ _ (show m_get lc j (fun v => match v with
      | .int x => some (nx, lc, .int x :: st, D)
      | _ => none) = some τ from h)
    cases v <;> try cases h
    have hv := hl.2.2.2 j _ hv
    rcases m_ld_spec (show m_ld b pc j kk nx .iload_n .iload = true from hc) with ⟨hd, rfl, hj⟩ | ⟨hd, rfl⟩
    · exact lv_iload_n hx hb hd (m_fin hj) hv (k H locs ls hR' hl)
    · exact lv_iload hx hb hd hv (k H locs ls hR' hl)
  | 3, h, hc =>
    obtain ⟨v, hv, h⟩ := m_get_spec _ _ _ _ (show m_get lc j (fun v => match v with
      | .long x => some (nx, lc, .long x :: st, D)
      | _ => none) = some τ from h)
    cases v <;> try cases h
    have hv := hl.2.2.2 j _ hv
    rcases m_ld_spec (show m_ld b pc j kk nx .lload_n .lload = true from hc) with ⟨hd, rfl, hj⟩ | ⟨hd, rfl⟩
    · exact lv_lload_n hx hb hd (m_fin hj) hv (k H locs ls hR' hl)
    · exact lv_lload hx hb hd hv (k H locs ls hR' hl)
  | 4, h, hc =>
    obtain ⟨v, hv, h⟩ := m_get_spec _ _ _ _ (show m_get lc j (fun v => match v with
      | .ref x => some (nx, lc, .ref x :: st, D)
      | _ => none) = some τ from h)
    cases v <;> try cases h
    have hv := hl.2.2.2 j _ hv
    rcases m_ld_spec (show m_ld b pc j kk nx .aload_n .aload = true from hc) with ⟨hd, rfl, hj⟩ | ⟨hd, rfl⟩
    · exact lv_aload_n hx hb hd (m_fin hj) hv (k H locs ls hR' hl)
    · exact lv_aload hx hb hd hv (k H locs ls hR' hl)
  | 5, h, hc =>
    match st, h with
    | .int x :: st', h =>
      obtain ⟨lc', h, hlf⟩ := m_set_spec _ _ _ _ (show m_set lc j (.int x) (fun lc' => some (nx, lc', st', D)) = some τ from h)
      cases h
      exact m_s_store (v := .int x) (f := .istore_n) (g := .istore) hc hlf hl (fun hd hi h hn kk' => lv_istore_n hx hb hd hi h hn rfl kk') (fun hd h hn kk' => lv_istore hx hb hd h hn rfl kk') (fun ls' hl' => k H locs ls' hR' hl')
  | 6, h, hc =>
    match st, h with
    | .long x :: st', h =>
      obtain ⟨lc', h, hlf⟩ := m_set2_spec _ _ _ _ (show m_set2 lc j (.long x) (fun lc' => some (nx, lc', st', D)) = some τ from h)
      cases h
      have hn : j + 1 < nL := by rw [← hl.2.2.1]; exact hlf.2.1
      rcases m_ld_spec (show m_ld b pc j kk nx .lstore_n .lstore = true from hc) with ⟨hd, rfl, hj⟩ | ⟨hd, rfl⟩
      · exact lv_lstore_n hx hb hd (m_fin hj) hl.has hn rfl (fun ls' h' => k H locs ls' hR' (hl.st2 (v := .long x) hlf h'))
      · exact lv_lstore hx hb hd hl.has hn rfl (fun ls' h' => k H locs ls' hR' (hl.st2 (v := .long x) hlf h'))
  | 7, h, hc =>
    match st, h with
    | .ref x :: st', h =>
      obtain ⟨lc', h, hlf⟩ := m_set_spec _ _ _ _ (show m_set lc j (.ref x) (fun lc' => some (nx, lc', st', D)) = some τ from h)
      cases h
      exact m_s_store (v := .ref x) (f := .astore_n) (g := .astore) hc hlf hl (fun hd hi h hn kk' => lv_astore_n hx hb hd hi h hn rfl kk') (fun hd h hn kk' => lv_astore hx hb hd h hn rfl kk') (fun ls' hl' => k H locs ls' hR' hl')
  | 8, h, hc =>
    obtain ⟨v, hv, h⟩ := m_get_spec _ _ _ _ (show m_get lc j (fun v => match v with
      | .int x => m_set lc j (.int (x + cv)) (fun lc' => some (nx, lc', st, D))
      | _ => none) = some τ from h)
    cases v <;> try cases h
    rename_i x
    obtain ⟨lc', h, hlf⟩ := m_set_spec _ _ _ _ (show m_set lc j (.int (x + cv)) (fun lc' => some (nx, lc', st, D)) = some τ from h)
    cases h
    obtain ⟨h1, h2⟩ := m_and hc
    obtain ⟨hd, rfl⟩ := m_is_spec h1
    have hn : j < nL := by rw [← hl.2.2.1]; exact hlf.2.1
    have hm := m_pl_in ad lc 0 j _ hv
    rw [Nat.zero_add] at hm
    obtain ⟨q, hq⟩ := List.getElem?_of_mem hm
    exact lv_iinc hx hb hd hl.has hq (by rw [of_decide_eq_true h2]) hn rfl (fun ls' h' => k H locs ls' hR' (hl.st (v := .int (x + cv)) hlf h'))
  | 9, h, hc =>
    match st, h with
    | .int y :: .int x :: st', h =>
      obtain ⟨hd, rfl⟩ := m_is_spec hc
      match kk, h, hd with
      | 0, h, hd => cases h; exact lv_iadd hx hb hd (k H locs ls hR' hl)
      | 1, h, hd => cases h; exact lv_isub hx hb hd (k H locs ls hR' hl)
      | 2, h, hd => cases h; exact lv_imul hx hb hd (k H locs ls hR' hl)
      | 3, h, hd => cases h; exact lv_iand hx hb hd (k H locs ls hR' hl)
      | 4, h, hd => cases h; exact lv_ior hx hb hd (k H locs ls hR' hl)
      | 5, h, hd => cases h; exact lv_ixor hx hb hd (k H locs ls hR' hl)
      | 6, h, hd => cases h; exact lv_ishl hx hb hd (k H locs ls hR' hl)
      | 7, h, hd => cases h; exact lv_ishr hx hb hd (k H locs ls hR' hl)
      | 8, h, hd => cases h; exact lv_iushr hx hb hd rfl (k H locs ls hR' hl)
      | z + 9, h, hd => cases h
  | 10, h, hc =>
    match st, h with
    | .long y :: .long x :: st', h =>
      obtain ⟨hd, rfl⟩ := m_is_spec hc
      match kk, h, hd with
      | 0, h, hd => cases h; exact lv_ladd hx hb hd (k H locs ls hR' hl)
      | 1, h, hd => cases h; exact lv_lsub hx hb hd (k H locs ls hR' hl)
      | 2, h, hd => cases h; exact lv_lmul hx hb hd (k H locs ls hR' hl)
      | z + 3, h, hd => cases h
  | 11, h, hc =>
    match st, h with
    | .int x :: st', h =>
      obtain ⟨hd, rfl⟩ := m_is_spec hc
      cases h
      exact lv_i2l hx hb hd rfl (k H locs ls hR' hl)
  | 12, h, hc =>
    match st, h with
    | .int x :: st', h =>
      obtain ⟨hd, rfl⟩ := m_is_spec hc
      cases h
      exact lv_i2b hx hb hd rfl (k H locs ls hR' hl)
  | 13, h, hc =>
    match st, h with
    | .int x :: st', h =>
      obtain ⟨hd, rfl⟩ := m_is_spec hc
      cases h
      exact lv_i2s hx hb hd rfl (k H locs ls hR' hl)
  | 14, h, hc =>
    match st, h with
    | .long y :: .long x :: st', h =>
      obtain ⟨hd, rfl⟩ := m_is_spec hc
      cases h
      exact W.lcmp hx hb hd (k H locs ls hR' hl)
  | 15, h, hc =>
    match st, h with
    | v :: st', h =>
      obtain ⟨hd, rfl⟩ := m_is_spec hc
      have hv : v.category = 1 := by cases v <;> first | rfl | cases h
      have h : (match m_one v with
        | true => some (pc + 1, lc, v :: v :: st', D)
        | false => none) = some τ := h
      split at h
      · cases h
        exact lv_dup hx hb hd (by rw [m_va_cat]; exact hv) (k H locs ls hR' hl)
      · cases h
  | 16, h, hc =>
    match st, h with
    | v :: u :: st', h =>
      obtain ⟨hd, rfl⟩ := m_is_spec hc
      have hv : v.category = 1 := by cases v <;> first | rfl | cases h
      have hu : u.category = 1 := by cases v <;> (try cases h) <;> cases u <;> first | rfl | cases h
      have h : (match m_one v with
        | true => match m_one u with
          | true => some (pc + 1, lc, v :: u :: v :: u :: st', D)
          | false => none
        | false => none) = some τ := h
      split at h
      · split at h
        · cases h
          exact lv_dup2_11 hx hb hd (by rw [m_va_cat]; exact hv) (by rw [m_va_cat]; exact hu) (k H locs ls hR' hl)
        · cases h
      · cases h
  | 17, h, hc =>
    match st, h with
    | .ref a :: st', h =>
      obtain ⟨h1, h3⟩ := m_and hc
      obtain ⟨h1, h2⟩ := m_and h1
      obtain ⟨hd, rfl⟩ := m_is_spec h1
      obtain ⟨C, T, N, hcl, hkN⟩ := m_fn_spec h3
      have hw := m_fk_spec h2
      rw [m_fw_eq hcl] at hw
      obtain ⟨fs, q, hsh, hfs, h⟩ := m_fld_spec (show m_fld a n.toNat kk (fun o => match o with
        | some q => some (pc + 3, lc, .ref q :: st', D)
        | none => some (pc + 3, lc, .int (D a kk) :: st', D)) = some τ from h)
      have hat := m_w_at (ad := ad) (cI := cI) (cR := cR) (D := D) hsh
      have hin := (m_cl_spec hcl).1
      cases q with
      | some q =>
        cases h
        exact va_get (v := .ref (ad q)) hx hb hts hin hown hK hP a hat hcl kk hkN (hts _ hw) (fun _ z => z) (by rw [List.getElem?_mapIdx, hfs]; rfl) hd (k H locs ls hR' hl)
      | none =>
        cases h
        exact va_get (v := .int (D a kk)) hx hb hts hin hown hK hP a hat hcl kk hkN (hts _ hw) (fun _ z => z) (by rw [List.getElem?_mapIdx, hfs]; rfl) hd (k H locs ls hR' hl)
  | 18, h, hc =>
    match st, h with
    | .int x :: .ref a :: st', h =>
      obtain ⟨h1, h3⟩ := m_and hc
      obtain ⟨h1, h2⟩ := m_and h1
      obtain ⟨hd, rfl⟩ := m_is_spec h1
      obtain ⟨C, T, N, hcl, hkN, hfin, hty⟩ := m_fi_spec h3
      have hw := m_fk_spec h2
      rw [m_fw_eq hcl] at hw
      obtain ⟨fs, q, hsh, hfs, h⟩ := m_fld_spec (show m_fld a n.toNat kk (fun o => match o with
        | some _ => none
        | none => some (pc + 3, lc, st', m_up D a kk x)) = some τ from h)
      have hat := m_w_at (ad := ad) (cI := cI) (cR := cR) (D := D) hsh
      obtain ⟨hin, ⟨ty0, hty0⟩, hnm⟩ := m_cl_spec hcl
      cases q with
      | some q => cases h
      | none =>
        cases h
        have ha : a ≠ 60 := by
          rintro rfl
          rw [m_shp60] at hsh
          cases hsh
        refine va_put (v := .int x) (ty := .int) hx hb hts hin ty0 hty0 hnm hown hK hP hD hS a hat hcl kk hkN (hts _ hw) (fun _ z => z) hfin hty rfl rfl (by simpa using (List.getElem?_eq_some_iff.mp hfs).1) hd (fun H1 locs1 hP1 hD1 hS1 => ?_)
        rw [m_w_fld hsh hfs] at hP1 hD1
        exact k H1 locs1 ls ⟨hP1, hD1, hS1, by show m_up D a kk x 60 = xs; rw [m_up_ne (Ne.symm ha)]; exact hxs⟩ hl
  | 19, h, hc =>
    obtain ⟨h1, h2⟩ := m_and hc
    obtain ⟨hd, rfl⟩ := m_is_spec h1
    have h : some (j, lc, st, D) = some τ := h
    cases h
    exact lv_goto hx hb hd (m_to_spec h2) (k H locs ls hR' hl)
  | z + 20, h, hc => cases h
end SGO
end
section
/-! ===== branches, steps that ask, switches ===== -/
section SBR
variable {p : Program} {l : Launch} {e : Env} {R : Room} {s : State} {m : MethodId} {args : Array Value} {below : List Frame} {meth : Method} {c : Code} {cells slots : Nat} {Q : State → Prop} {dC : Nat → ClassId} {dI : Nat → Nat → Nat} {cI cR : ClassId} {ad : Nat → Nat} {A : Nat → Prop} {xs : Nat → Int32} {nL o : Nat} {b : ByteArray} {lc : m_Lc} {st : List Value} {D : m_D} {τ ρ : m_St} {tb : List m_E} {pc : Nat}
set_option maxHeartbeats 4000000 in
theorem m_sim_go (C : m_Cx p s m args c dC dI cI cR b o nL) (hck : tb.all (m_ck b o) = true) (h : m_go tb (pc, lc, st, D) = some τ) (k : m_X p l e R s m args below meth c cells slots Q dC dI cI cR ad A xs nL τ) : m_X p l e R s m args below meth c cells slots Q dC dI cI cR ad A xs nL (pc, lc, st, D) := by
  unfold m_go at h
  dsimp only at h
  cases hf : m_find tb pc with
  | none => rw [hf] at h; cases h
  | some E =>
    rw [hf] at h
    obtain ⟨hm, hpc⟩ := m_find_spec tb hf
    subst hpc
    exact m_sim_ex C E (List.all_eq_true.mp hck E hm) h k
set_option maxHeartbeats 4000000 in
theorem m_sim_br (C : m_Cx p s m args c dC dI cI cR b o nL) (hck : tb.all (m_ck b o) = true) {q : Prop} (h : m_br tb (pc, lc, st, D) = some (q, τ, ρ)) (k1 : q → m_X p l e R s m args below meth c cells slots Q dC dI cI cR ad A xs nL τ) (k2 : ¬ q → m_X p l e R s m args below meth c cells slots Q dC dI cI cR ad A xs nL ρ) : m_X p l e R s m args below meth c cells slots Q dC dI cI cR ad A xs nL (pc, lc, st, D) := by
  unfold m_br at h
  dsimp only at h
  cases hf : m_find tb pc with
  | none => rw [hf] at h; cases h
  | some E =>
    rw [hf] at h
    obtain ⟨hm, hpc⟩ := m_find_spec tb hf
    have hc := List.all_eq_true.mp hck E hm
    obtain ⟨pc', nx, op, j, kk, n, cv, w⟩ := E
    subst hpc
    obtain ⟨hx, hb, hml, hown, hts, hK⟩ := C
    intro H locs ls hR hl
    show W p l e R s m args below meth c H locs cells slots Q (F0 m pc' ls (st.map (m_va ad)))
    dsimp only at h
    split at h
    · obtain ⟨h1, h2⟩ := m_and hc
      obtain ⟨hd, rfl⟩ := m_is_spec h1
      have ht := m_to_spec h2
      split at h
      · rename_i x st'
        match kk, h, hd with
        | 0, h, hd => cases h; exact lv_if_eq hx hb hd ht (fun z => k1 z H locs ls hR hl) (fun z => k2 z H locs ls hR hl)
        | 1, h, hd => cases h; exact lv_if_ne hx hb hd ht (fun z => k1 z H locs ls hR hl) (fun z => k2 (fun y => y z) H locs ls hR hl)
        | 2, h, hd => cases h; exact lv_if_lt hx hb hd ht (fun z => k1 z H locs ls hR hl) (fun z => k2 z H locs ls hR hl)
        | 3, h, hd => cases h; exact lv_if_ge hx hb hd ht (fun z => k1 z H locs ls hR hl) (fun z => k2 z H locs ls hR hl)
        | 4, h, hd => cases h; exact lv_if_gt hx hb hd ht (fun z => k1 z H locs ls hR hl) (fun z => k2 z H locs ls hR hl)
        | 5, h, hd => cases h; exact lv_if_le hx hb hd ht (fun z => k1 z H locs ls hR hl) (fun z => k2 z H locs ls hR hl)
        | z + 6, h, hd => cases h
      · cases h
    · obtain ⟨h1, h2⟩ := m_and hc
      obtain ⟨hd, rfl⟩ := m_is_spec h1
      have ht := m_to_spec h2
      split at h
      · rename_i y x st'
        match kk, h, hd with
        | 0, h, hd => cases h; exact lv_icmp_eq hx hb hd ht (fun z => k1 z H locs ls hR hl) (fun z => k2 z H locs ls hR hl)
        | 1, h, hd => cases h; exact lv_icmp_ne hx hb hd ht (fun z => k1 z H locs ls hR hl) (fun z => k2 (fun y => y z) H locs ls hR hl)
        | 2, h, hd => cases h; exact lv_icmp_lt hx hb hd ht (fun z => k1 z H locs ls hR hl) (fun z => k2 z H locs ls hR hl)
        | 3, h, hd => cases h; exact lv_icmp_ge hx hb hd ht (fun z => k1 z H locs ls hR hl) (fun z => k2 z H locs ls hR hl)
        | 4, h, hd => cases h; exact lv_icmp_gt hx hb hd ht (fun z => k1 z H locs ls hR hl) (fun z => k2 z H locs ls hR hl)
        | 5, h, hd => cases h; exact lv_icmp_le hx hb hd ht (fun z => k1 z H locs ls hR hl) (fun z => k2 z H locs ls hR hl)
        | z + 6, h, hd => cases h
      · cases h
    · cases h
theorem m_len_spec {β : Type} {L a : Nat} {f : Nat → Option β} {r : β} (h : m_len L a f = some r) : (a = 60 ∧ f L = some r) ∨ (a ≠ 60 ∧ ∃ n, m_shp[a]? = some (.inl n) ∧ f n = some r) := by
  unfold m_len at h
  split at h
  · rename_i hb
    exact Or.inl ⟨Nat.eq_of_beq_eq_true hb, h⟩
  · rename_i hb
    have ha : a ≠ 60 := fun z => by rw [z] at hb; cases hb
    split at h
    · rename_i n hn
      exact Or.inr ⟨ha, n, hn, h⟩
    · cases h
set_option maxHeartbeats 4000000 in
theorem m_sim_sd (C : m_Cx p s m args c dC dI cI cR b o nL) (hck : tb.all (m_ck b o) = true) {L dp : Nat} (hX : va_X (ad 60) L xs s s.heap) (hX1 : ad 60 < s.heap.size) (hX2 : ¬ A (ad 60)) (hdp : 1 ≤ dp → 1 ≤ R.frames ∧ 18 ≤ R.locals) {q : Prop} (h : m_sd L dp tb (pc, lc, st, D) = some (q, τ)) (hq : q) (k : m_X p l e R s m args below meth c cells slots Q dC dI cI cR ad A xs nL τ) : m_X p l e R s m args below meth c cells slots Q dC dI cI cR ad A xs nL (pc, lc, st, D) := by
  unfold m_sd at h
  dsimp only at h
  cases hf : m_find tb pc with
  | none => rw [hf] at h; cases h
  | some E =>
    rw [hf] at h
    obtain ⟨hm, hpc⟩ := m_find_spec tb hf
    have hc := List.all_eq_true.mp hck E hm
    obtain ⟨pc', nx, op, j, kk, n, cv, w⟩ := E
    subst hpc
    obtain ⟨hx, hb, hml, hown, hts, hK⟩ := C
    intro H locs ls hR hl
    show W p l e R s m args below meth c H locs cells slots Q (F0 m pc' ls (st.map (m_va ad)))
    have hR' := hR
    obtain ⟨hP, hD, hS, hxs⟩ := hR
    have hxs' : D 60 = xs := hxs
    dsimp only at h
    split at h
    · obtain ⟨hd, rfl⟩ := m_is_spec hc
      split at h
      · rename_i i a st'
        rcases m_len_spec h with ⟨rfl, h⟩ | ⟨ha, z, hz, h⟩
        · cases h
          have k1 := k H locs ls hR' hl
          dsimp only at k1
          rw [hxs'] at k1
          exact va_sld hx hb hX hX1 hX2 hS hq hd k1
        · cases h
          exact va_iald hx hb hK hP a 0 (m_w_at hz) rfl hq hd (k H locs ls hR' hl)
      · cases h
    · obtain ⟨hd, rfl⟩ := m_is_spec hc
      split at h
      · rename_i x i a st'
        split at h
        · rename_i z hz
          cases h
          have ha : a ≠ 60 := by
            rintro rfl
            rw [m_shp60] at hz
            cases hz
          refine va_iast hx hb hK hP hD hS a 0 (m_w_at hz) rfl hq hd (fun H1 locs1 hP1 hD1 hS1 => ?_)
          rw [m_w_arr hz] at hP1 hD1
          exact k H1 locs1 ls ⟨hP1, hD1, hS1, by show m_up D a _ x 60 = xs; rw [m_up_ne (Ne.symm ha)]; exact hxs'⟩ hl
        · cases h
      · cases h
    · obtain ⟨hd, rfl⟩ := m_is_spec hc
      split at h
      · rename_i a st'
        rcases m_len_spec h with ⟨rfl, h⟩ | ⟨ha, z, hz, h⟩
        · cases h
          exact va_slen hx hb hX hX1 hX2 hS hd (k H locs ls hR' hl)
        · cases h
          exact va_alen hx hb hK hP a 0 (m_w_at hz) rfl rfl hd (k H locs ls hR' hl)
      · cases h
    · obtain ⟨hd, rfl⟩ := m_is_spec hc
      split at h
      · cases h
        exact lv_idiv hx hb hd hq (k H locs ls hR' hl)
      · cases h
    · obtain ⟨hd, rfl⟩ := m_is_spec hc
      split at h
      · cases h
        exact lv_irem hx hb hd hq (k H locs ls hR' hl)
      · cases h
    · obtain ⟨hd, rfl⟩ := m_is_spec hc
      split at h
      · cases h
        exact lv_ldiv hx hb hd hq (k H locs ls hR' hl)
      · cases h
    · obtain ⟨hd, rfl⟩ := m_is_spec hc
      split at h
      · cases h
        exact lv_lrem hx hb hd hq (k H locs ls hR' hl)
      · cases h
    · split at h
      · rename_i x a st'
        obtain ⟨h1, h3⟩ := m_and hc
        obtain ⟨h1, h2⟩ := m_and h1
        obtain ⟨hd, rfl⟩ := m_is_spec h1
        obtain ⟨C, T, N, hcl, hkN, hfin, hty⟩ := m_fi_spec h3
        have hw := m_fk_spec h2
        rw [m_fw_eq hcl] at hw
        obtain ⟨fs, u, hsh, hfs, h⟩ := m_fld_spec h
        have hat := m_w_at (ad := ad) (cI := cI) (cR := cR) (D := D) hsh
        obtain ⟨hin, ⟨ty0, hty0⟩, hnm⟩ := m_cl_spec hcl
        cases u with
        | some u => cases h
        | none =>
          cases h
          have ha : a ≠ 60 := by
            rintro rfl
            rw [m_shp60] at hsh
            cases hsh
          refine va_put (v := .int x) (ty := .boolean) hx hb hts hin ty0 hty0 hnm hown hK hP hD hS a hat hcl kk hkN (hts _ hw) (fun _ z => z) hfin hty (by rcases hq with rfl | rfl <;> rfl) (by rcases hq with rfl | rfl <;> rfl) (by simpa using (List.getElem?_eq_some_iff.mp hfs).1) hd (fun H1 locs1 hP1 hD1 hS1 => ?_)
          rw [m_w_fld hsh hfs] at hP1 hD1
          exact k H1 locs1 ls ⟨hP1, hD1, hS1, by show m_up D a kk x 60 = xs; rw [m_up_ne (Ne.symm ha)]; exact hxs'⟩ hl
      · cases h
    · split at h
      · cases h
      · rename_i dp'
        split at h
        · rename_i z dq a1 sp a0 st'
          split at h
          · rename_i n0 hn0
            split at h
            · rename_i n1 hn1
              split at h
              · cases h
                obtain ⟨h1, h2⟩ := m_and hc
                obtain ⟨hd, rfl⟩ := m_is_spec h1
                obtain ⟨g1, g2, g3, g4, g5⟩ := hq
                obtain ⟨r1, r2⟩ := hdp (by omega)
                have ha : a1 ≠ 60 := by
                  rintro rfl
                  rw [m_shp60] at hn1
                  cases hn1
                have hz := fun w hw => hts w (zw_ok w hw)
                refine va_copyi (rest := []) hx hb (by rw [hml]; exact hl.1.symm) hown (hts _ (aw_ok _ (of_decide_eq_true h2))) (hz _ (by simp)) (hz _ (by simp)) (hz _ (by simp)) hK hP hD hS a0 a1 0 0 (m_w_at hn0) (m_w_at hn1) rfl rfl rfl g1 g2 g3 g4 g5 (fun _ _ => rfl) r1 (by simpa [nativeFrameWords] using r2) hd (fun H1 locs1 hP1 hD1 hS1 => ?_)
                rw [m_w_cpy hn1] at hP1 hD1
                exact k H1 locs1 ls ⟨hP1, hD1, hS1, by show m_cp D a0 a1 _ _ _ 60 = xs; rw [m_cp_ne (Ne.symm ha)]; exact hxs'⟩ hl
              · cases h
            · cases h
          · cases h
        · cases h
    · cases h
set_option maxHeartbeats 4000000 in
theorem m_sim_al (C : m_Cx p s m args c dC dI cI cR b o nL) (hck : tb.all (m_ck b o) = true) {i : Int32} {js : List Nat} {f : Nat → m_St} (h : m_al tb (pc, lc, st, D) = some (i, js, f)) (hi : vp_in i js.length) (k : ∀ q, js[i.toNatClampNeg]? = some q → m_X p l e R s m args below meth c cells slots Q dC dI cI cR ad A xs nL (f q)) : m_X p l e R s m args below meth c cells slots Q dC dI cI cR ad A xs nL (pc, lc, st, D) := by
  unfold m_al at h
  dsimp only at h
  cases hf : m_find tb pc with
  | none => rw [hf] at h; cases h
  | some E =>
    rw [hf] at h
    obtain ⟨hm, hpc⟩ := m_find_spec tb hf
    have hc := List.all_eq_true.mp hck E hm
    obtain ⟨pc', nx, op, j, kk, n, cv, w⟩ := E
    subst hpc
    obtain ⟨hx, hb, hml, hown, hts, hK⟩ := C
    intro H locs ls hR hl
    show W p l e R s m args below meth c H locs cells slots Q (F0 m pc' ls (st.map (m_va ad)))
    dsimp only at h
    split at h
    · obtain ⟨hd, rfl⟩ := m_is_spec hc
      split at h
      · rename_i i' a st'
        split at h
        · rename_i js' hjs
          cases h
          have hlt : i.toNatClampNeg < js.length := Nat.not_le.mp fun q => hi (Or.inr q)
          have hq : js[i.toNatClampNeg]? = some js[i.toNatClampNeg] := List.getElem?_eq_getElem hlt
          have k1 := k _ hq H locs ls hR hl
          refine va_aldq (C := "RainRead$Sheet") (f := fun k => (js[k]?).map ad) hx hb hK hR.1 a 1 (m_w_at hjs) rfl hi hd ?_
          show W p l e R s m args below meth c H locs cells slots Q (F0 m (pc' + 1) ls (va_rf ((js[i.toNatClampNeg]?).map ad) :: _))
          rw [hq]
          exact k1
        · cases h
      · cases h
    · cases h
theorem m_cs_spec {X : Nat → Prop} {x : Int32} {d : Nat} : ∀ cs : List (Int32 × Nat), m_cs X x d cs → (∃ (i t : Nat), cs[i]? = some (x, t) ∧ X t) ∨ ((∀ q ∈ cs, x ≠ q.1) ∧ X d)
  | [], h => Or.inr ⟨fun q hq => (by cases hq), h⟩
  | (v, t) :: r, h => by
    by_cases hv : x = v
    · subst hv
      exact Or.inl ⟨0, t, rfl, h.1 rfl⟩
    · rcases m_cs_spec r (h.2 hv) with ⟨i, t', a, b⟩ | ⟨a, b⟩
      · exact Or.inl ⟨i + 1, t', by simpa using a, b⟩
      · refine Or.inr ⟨fun q hq => ?_, b⟩
        rcases List.mem_cons.mp hq with rfl | hq
        · exact hv
        · exact a q hq
theorem m_cs_look {X : Nat → Prop} {x : Int32} {d pc : Nat} {dd : Int} (hd : (pc : Int) + dd = (d : Int)) : ∀ (cs : List (Int32 × Nat)) (ps : List (Int × Int)), ps.map (fun q => (q.1, (pc : Int) + q.2)) = cs.map (fun q => (q.1.toInt, (q.2 : Int))) → m_cs X x d cs → ∃ t : Nat, (pc : Int) + Op.lookupswitch.offset ps dd x.toInt = (t : Int) ∧ X t
  | [], [], _, h => ⟨d, hd, h⟩
  | (v, t) :: r, (a, o) :: ps, e, h => by
    simp only [List.map_cons, List.cons.injEq, Prod.mk.injEq] at e
    obtain ⟨⟨e1, e2⟩, e3⟩ := e
    rw [Op.lookupswitch.offset_cons]
    by_cases hv : x = v
    · subst hv
      rw [if_pos e1]
      exact ⟨t, e2, h.1 rfl⟩
    · rw [if_neg (fun z => hv (Int32.toInt_inj.mp (by rw [← e1, z])))]
      exact m_cs_look hd r ps e3 (h.2 hv)
  | [], _ :: _, e, _ => by cases e
  | _ :: _, [], e, _ => by cases e
set_option maxHeartbeats 4000000 in
theorem m_sim_sw (C : m_Cx p s m args c dC dI cI cR b o nL) (hck : tb.all (m_ck b o) = true) {x : Int32} {t : Nat} {cs : List (Int32 × Nat)} {f : Nat → m_St} (h : m_sw tb (pc, lc, st, D) = some (x, t, cs, f)) (k : m_cs (fun t => m_X p l e R s m args below meth c cells slots Q dC dI cI cR ad A xs nL (f t)) x t cs) : m_X p l e R s m args below meth c cells slots Q dC dI cI cR ad A xs nL (pc, lc, st, D) := by
  unfold m_sw at h
  dsimp only at h
  cases hf : m_find tb pc with
  | none => rw [hf] at h; cases h
  | some E =>
    rw [hf] at h
    obtain ⟨hm, hpc⟩ := m_find_spec tb hf
    have hc := List.all_eq_true.mp hck E hm
    obtain ⟨pc', nx, op, j, kk, n, cv, w⟩ := E
    subst hpc
    obtain ⟨hx, hb, hml, hown, hts, hK⟩ := C
    intro H locs ls hR hl
    show W p l e R s m args below meth c H locs cells slots Q (F0 m pc' ls (st.map (m_va ad)))
    dsimp only at h
    split at h
    · split at h
      · rename_i x' st'
        cases h
        have hc : (match decode b pc' with
          | .ok (.tableswitch d lo hi offs, _) => m_to pc' d t && decide (hi = lo + ((m_sws.getD kk []).length : Int) - 1) && (m_sws.getD kk []).zipIdx.all (fun q => decide (q.1.1.toInt = lo + (q.2 : Int)) && (match offs[q.2]? with
            | some off => m_to pc' off q.1.2
            | none => false))
          | _ => false) = true := hc
        split at hc
        · rename_i d lo hi offs len hd
          obtain ⟨h1, h3⟩ := m_and hc
          obtain ⟨h1, h2⟩ := m_and h1
          have h2 := of_decide_eq_true h2
          have ht := m_to_spec h1
          have hall := List.all_eq_true.mp h3
          have hz : ∀ (i : Nat) (q : Int32 × Nat), (m_sws.getD kk [])[i]? = some q → q.1.toInt = lo + (i : Int) ∧ ∃ off, offs[i]? = some off ∧ (pc' : Int) + off = (q.2 : Int) := by
            intro i q hi
            have hmem : (q, i) ∈ (m_sws.getD kk []).zipIdx := by
              rw [List.mem_zipIdx_iff_getElem?]
              exact hi
            obtain ⟨a1, a2⟩ := m_and (hall _ hmem)
            refine ⟨of_decide_eq_true a1, ?_⟩
            dsimp only at a2
            split at a2
            · rename_i off ho
              exact ⟨off, ho, m_to_spec a2⟩
            · cases a2
          rcases m_cs_spec _ k with ⟨i, t', a1, a2⟩ | ⟨a1, a2⟩
          · obtain ⟨b1, off, b2, b3⟩ := hz i _ a1
            have hlt : i < (m_sws.getD kk []).length := (List.getElem?_eq_some_iff.mp a1).1
            dsimp only at b1 b3
            exact lv_tableIn hx hb hd (by omega) (by omega) (by rw [show (x.toInt - lo).toNat = i by omega]; exact b2) b3 (a2 H locs ls hR hl)
          · refine lv_tableOut hx hb hd ?_ ht (a2 H locs ls hR hl)
            rcases Int.lt_or_le x.toInt lo with g | g
            · exact Or.inl g
            · rcases Int.lt_or_le hi x.toInt with g2 | g2
              · exact Or.inr g2
              · exfalso
                have hlt : (x.toInt - lo).toNat < (m_sws.getD kk []).length := by omega
                have hq := List.getElem?_eq_getElem hlt
                obtain ⟨b1, -⟩ := hz _ _ hq
                refine a1 _ (List.mem_of_getElem? hq) (Int32.toInt_inj.mp ?_)
                rw [b1]
                omega
        · cases hc
      · cases h
    · split at h
      · rename_i x' st'
        cases h
        have hc : (match decode b pc' with
          | .ok (.lookupswitch d ps, _) => m_to pc' d t && (ps.toList.zip (ps.toList.drop 1)).all (fun (a, next) => a.1 < next.1) && decide (ps.toList.map (fun q => (q.1, (pc' : Int) + q.2)) = (m_sws.getD kk []).map (fun q => (q.1.toInt, (q.2 : Int))))
          | _ => false) = true := hc
        split at hc
        · rename_i d ps len hd
          obtain ⟨h1, h3⟩ := m_and hc
          obtain ⟨h1, h2⟩ := m_and h1
          obtain ⟨t', a1, a2⟩ := m_cs_look (m_to_spec h1) _ _ (of_decide_eq_true h3) k
          exact lv_lookup hx hb hd h2 rfl a1 (a2 H locs ls hR hl)
        · cases hc
      · cases h
    · cases h
end SBR
end
section
/-! ===== calls, ends, the whole: what the small machine comes to, the real one does ===== -/
def m_A (ad : Nat → Nat) (sz : Nat) : Nat → Prop := fun q => (∃ i : Nat, i < 60 ∧ q = ad i) ∨ sz ≤ q
def m_ws (y : Nat) : List Cond := m_cw (m_M y) :: m_TB
def m_rm (d : Nat) : Room := { frames := d, cells := 0, slots := 0, locals := 35 * d }
def m_pre (dC : Nat → ClassId) (dI : Nat → Nat → Nat) (cI cR : ClassId) (ad : Nat → Nat) (L : Nat) (as : List Value) (D : m_D) (sz : Nat) : Array Value → State → Prop :=
  va_Pc (as.map (m_va ad)) (fun U => U.heap.size = sz ∧ va_P (dC, dI) m_cl (m_w ad cI cR D) U.heap ∧ va_K (dC, dI) m_cl (m_tys cI cR) U ∧ va_D (fun _ => True) (m_w ad cI cR D) ∧ va_X (ad 60) L (D 60) U U.heap ∧ ad 60 < sz ∧ ∀ i : Nat, i < 60 → ad i ≠ ad 60)
def m_post (dC : Nat → ClassId) (dI : Nat → Nat → Nat) (cI cR : ClassId) (ad : Nat → Nat) (Q : m_K) (xs : Nat → Int32) (A : Nat → Prop) : Array Value → State → Outcome → State → Prop :=
  fun _ st oc t => (∃ (r : Option Value) (D' : m_D), oc = .returned (r.map (m_va ad)) ∧ Q r D' ∧ va_P (dC, dI) m_cl (m_w ad cI cR D') t.heap ∧ D' 60 = xs) ∧ va_F A st t
theorem m_shp_len : m_shp.length = 60 := rfl
theorem m_w_lt {ad : Nat → Nat} {cI cR : ClassId} {D : m_D} {k : Nat} {q : Nat × va_E} (h : (m_w ad cI cR D)[k]? = some q) : k < 60 ∧ q.1 = ad k := by
  rw [m_w_get] at h
  cases hs : m_shp[k]? with
  | none => rw [hs] at h; cases h
  | some sh =>
    rw [hs] at h
    cases h
    exact ⟨by rw [← m_shp_len]; exact (List.getElem?_eq_some_iff.mp hs).1, rfl⟩
theorem m_w_ex {ad : Nat → Nat} {cI cR : ClassId} {D : m_D} {k : Nat} (h : k < 60) : ∃ q, (m_w ad cI cR D)[k]? = some q ∧ q.1 = ad k := by
  have hl : k < m_shp.length := by rw [m_shp_len]; exact h
  exact ⟨_, m_w_at (List.getElem?_eq_getElem hl), rfl⟩
theorem m_D_any {ad : Nat → Nat} {cI cR : ClassId} {D D' : m_D} {A : Nat → Prop} (h : va_D A (m_w ad cI cR D)) : va_D A (m_w ad cI cR D') := by
  refine ⟨fun i j p q hi hj hpq => ?_, fun k q hk => ?_⟩
  · obtain ⟨a1, a2⟩ := m_w_lt hi
    obtain ⟨b1, b2⟩ := m_w_lt hj
    obtain ⟨p', c1, c2⟩ := m_w_ex (ad := ad) (cI := cI) (cR := cR) (D := D) a1
    obtain ⟨q', d1, d2⟩ := m_w_ex (ad := ad) (cI := cI) (cR := cR) (D := D) b1
    exact h.1 i j p' q' c1 d1 (by rw [c2, d2, ← a2, ← b2]; exact hpq)
  · obtain ⟨a1, a2⟩ := m_w_lt hk
    obtain ⟨p', c1, c2⟩ := m_w_ex (ad := ad) (cI := cI) (cR := cR) (D := D) a1
    rw [a2, ← c2]
    exact h.2 k p' c1
theorem m_D_in {ad : Nat → Nat} {cI cR : ClassId} {D : m_D} {A : Nat → Prop} (h : va_D A (m_w ad cI cR D)) {i : Nat} (hi : i < 60) : A (ad i) := by
  obtain ⟨p', c1, c2⟩ := m_w_ex (ad := ad) (cI := cI) (cR := cR) (D := D) hi
  rw [← c2]
  exact h.2 i p' c1
theorem m_D_self {ad : Nat → Nat} {cI cR : ClassId} {D : m_D} {A : Nat → Prop} {sz : Nat} (h : va_D A (m_w ad cI cR D)) : va_D (m_A ad sz) (m_w ad cI cR D) :=
  ⟨h.1, fun k q hk => Or.inl ⟨k, (m_w_lt hk).1, (m_w_lt hk).2⟩⟩
theorem m_pop_spec {β : Type} : ∀ (n : Nat) (acc st : List Value) (f : List Value → List Value → Option β) (r : β), m_pop n acc st f = some r → ∃ as st', f (as ++ acc) st' = some r ∧ st = as.reverse ++ st' ∧ as.length = n
  | 0, acc, st, f, r, h => ⟨[], st, h, rfl, rfl⟩
  | n + 1, acc, [], f, r, h => by cases h
  | n + 1, acc, v :: st, f, r, h => by
    obtain ⟨as, st', a, b, c⟩ := m_pop_spec n (v :: acc) st f r h
    exact ⟨as ++ [v], st', by simpa using a, by simp [b], by simp [c]⟩
theorem m_cats_eq (ad : Nat → Nat) : ∀ st : List Value, ((st.map (m_va ad)).map fun v => v.category).sum = m_cats st
  | [] => rfl
  | v :: t => by
    have h := m_cats_eq ad t
    simp only [List.map_cons, List.sum_cons, h, m_va_cat]
    cases v <;> simp [m_cats, Value.category] <;> omega
theorem m_ent_spec {β : Type} (ad : Nat → Nat) : ∀ (n k : Nat) (as : List Value) (f : m_Lc → Option β) (r : β), m_ent n as f = some r → ∃ lc, f lc = some r ∧ lc.length = n ∧ (lg_sl (as.map (m_va ad))).length ≤ n ∧ ∀ (i : Nat) (v : Value), lc[i]? = some (some v) → (k + i, m_va ad v) ∈ lv_args k (as.map (m_va ad))
  | 0, k, [], f, r, h => ⟨[], h, rfl, by simp [lg_sl], fun i v hv => by simp at hv⟩
  | 0, k, _ :: _, f, r, h => by cases h
  | n + 1, k, [], f, r, h => by
    obtain ⟨lc, a, b, c, g⟩ := m_ent_spec ad n (k + 1) [] _ r h
    refine ⟨none :: lc, a, by simp [b], by simp [lg_sl], fun i v hv => ?_⟩
    cases i with
    | zero => simp at hv
    | succ i => exact absurd (g i v (by simpa using hv)) (by simp [lv_args])
  | 1, k, .long x :: vs, f, r, h => by cases h
  | n + 2, k, .long x :: vs, f, r, h => by
    obtain ⟨lc, a, b, c, g⟩ := m_ent_spec ad n (k + 2) vs _ r h
    refine ⟨some (.long x) :: none :: lc, a, by simp [b], ?_, fun i v hv => ?_⟩
    · show (lg_sl (Value.long x :: vs.map (m_va ad))).length ≤ n + 2
      simp only [lg_sl, List.flatMap_cons, Value.category, if_true, List.length_append, List.length_cons, List.length_nil] at c ⊢
      omega
    · show (k + i, m_va ad v) ∈ lv_args k (Value.long x :: vs.map (m_va ad))
      match i, hv with
      | 0, hv =>
        have : v = .long x := by simpa using hv.symm
        subst this
        simp [lv_args, m_va]
      | 1, hv => simp at hv
      | i + 2, hv =>
        have := g i v (by simpa using hv)
        simp only [lv_args, Value.category, if_true]
        rw [show k + (i + 2) = k + 2 + i by omega]
        exact List.mem_cons_of_mem _ this
  | n + 1, k, v0 :: vs, f, r, h => by
    have key : v0.category = 1 → m_ent n vs (fun t => f (some v0 :: t)) = some r → ∃ lc, f lc = some r ∧ lc.length = n + 1 ∧ (lg_sl ((v0 :: vs).map (m_va ad))).length ≤ n + 1 ∧ ∀ (i : Nat) (v : Value), lc[i]? = some (some v) → (k + i, m_va ad v) ∈ lv_args k ((v0 :: vs).map (m_va ad)) := by
      intro hc h
      obtain ⟨lc, a, b, c, g⟩ := m_ent_spec ad n (k + 1) vs _ r h
      have hc' : ¬ (m_va ad v0).category = 2 := by rw [m_va_cat]; omega
      refine ⟨some v0 :: lc, a, by simp [b], ?_, fun i v hv => ?_⟩
      · simp only [List.map_cons, lg_sl, List.flatMap_cons, hc', if_false, List.length_append, List.length_cons, List.length_nil] at c ⊢
        omega
      · simp only [List.map_cons, lv_args, hc', if_false]
        cases i with
        | zero =>
          have : v = v0 := by simpa using hv.symm
          subst this
          simp
        | succ i =>
          have := g i v (by simpa using hv)
          rw [show k + (i + 1) = k + 1 + i by omega]
          exact List.mem_cons_of_mem _ this
    cases v0 with
    | int x => exact key rfl h
    | float x => exact key rfl h
    | null => exact key rfl h
    | ref x => exact key rfl h
    | retAddr x => exact key rfl h
    | double x => cases h
    | long x =>
      cases n with
      | zero => cases h
      | succ n =>
        obtain ⟨lc, a, b, c, g⟩ := m_ent_spec ad n (k + 2) vs _ r h
        refine ⟨some (.long x) :: none :: lc, a, by simp [b], ?_, fun i v hv => ?_⟩
        · show (lg_sl (Value.long x :: vs.map (m_va ad))).length ≤ n + 2
          simp only [lg_sl, List.flatMap_cons, Value.category, if_true, List.length_append, List.length_cons, List.length_nil] at c ⊢
          omega
        · show (k + i, m_va ad v) ∈ lv_args k (Value.long x :: vs.map (m_va ad))
          match i, hv with
          | 0, hv =>
            have : v = .long x := by simpa using hv.symm
            subst this
            simp [lv_args, m_va]
          | 1, hv => simp at hv
          | i + 2, hv =>
            have := g i v (by simpa using hv)
            simp only [lv_args, Value.category, if_true]
            rw [show k + (i + 2) = k + 2 + i by omega]
            exact List.mem_cons_of_mem _ this
theorem m_goodT {w : Cond} (h : w ∈ m_TB) : w ∈ m_TB ∧ ((w.onTables && w.keeps) = true ∨ ∃ ty, w = .arrayClass ty) := ⟨h, good_of_word (List.mem_filter.mp h).2⟩
theorem m_ms_len : m_ms.length = 170 := by decide +kernel
theorem m_M_in {y : Nat} (h : y < 169) : m_M y ∈ m_ms.dropLast := by
  have e : m_ms.dropLast[y]? = some (m_M y) := by
    rw [List.getElem?_dropLast, if_pos (by rw [m_ms_len]; omega)]
    have h2 : y < m_ms.length := by rw [m_ms_len]; omega
    show m_ms[y]? = some (m_ms.getD y M_L_law)
    rw [List.getD_eq_getElem?_getD, List.getElem?_eq_getElem h2]
    rfl
  exact List.mem_of_getElem? e
theorem m_ckR_spec {o : Nat} {y : MethodName} {mx : Nat} {rt : Option FieldType} {rk np : Nat} (h : m_ckR o y mx rt rk np = true) : mx ≤ 16 ∧ plainFor y = true ∧ y.cls = m_cn o ∧ o < 10 ∧ y.cls ≠ "java/lang/invoke/MethodHandle" ∧ y.cls ≠ "java/lang/invoke/VarHandle" ∧ (parseMethodDescriptor y.desc).map (fun d => d.parameters.length) = some np ∧ ((rk = 0 ∧ rt = none) ∨ (rk = 1 ∧ rt = some .int) ∨ (rk = 2 ∧ rt = some .boolean) ∨ (3 ≤ rk ∧ rt = some .long)) := by
  unfold m_ckR at h
  obtain ⟨h, h8⟩ := m_and h
  obtain ⟨h, h7⟩ := m_and h
  obtain ⟨h, h6⟩ := m_and h
  obtain ⟨h, h5⟩ := m_and h
  obtain ⟨h, h4⟩ := m_and h
  obtain ⟨h, h3⟩ := m_and h
  obtain ⟨h1, h2⟩ := m_and h
  refine ⟨of_decide_eq_true h1, h2, of_decide_eq_true h3, of_decide_eq_true h4, of_decide_eq_true h5, of_decide_eq_true h6, of_decide_eq_true h7, ?_⟩
  match rk, h8 with
  | 0, h8 => exact Or.inl ⟨rfl, of_decide_eq_true h8⟩
  | 1, h8 => exact Or.inr (Or.inl ⟨rfl, of_decide_eq_true h8⟩)
  | 2, h8 => exact Or.inr (Or.inr (Or.inl ⟨rfl, of_decide_eq_true h8⟩))
  | z + 3, h8 => exact Or.inr (Or.inr (Or.inr ⟨by omega, of_decide_eq_true h8⟩))
theorem m_M_spec {y : Nat} (h : y < 169) : (m_M y).2.2.2.2.2.2.2.2.all (m_ck (m_M y).2.2.1 (m_M y).1) = true ∧ m_ckR (m_M y).1 (m_M y).2.1 (m_M y).2.2.2.1 (m_M y).2.2.2.2.1 (m_M y).2.2.2.2.2.1 (m_M y).2.2.2.2.2.2.1 = true :=
  m_and (ck_all (m_M y) (List.dropLast_subset _ (m_M_in h)))
end
section
/-- a cell's kind is one that there is -/
theorem m_shp_cl {a ci : Nat} {fs : List (Option Nat)} (h : m_shp[a]? = some (.inr (.inr (ci, fs)))) : ∃ q : vw_C, m_cl[ci]? = some q ∧ q.1 = m_cn ci := by
  have h0 : ∀ sh ∈ m_shp, ∀ ci fs, sh = .inr (.inr (ci, fs)) → ci < 6 := by
    have hd : m_shp.all (fun sh => match sh with
      | .inr (.inr (ci, _)) => decide (ci < 6)
      | _ => true) = true := rfl
    intro sh hs ci fs e
    have := List.all_eq_true.mp hd sh hs
    rw [e] at this
    exact of_decide_eq_true this
  have h1 := h0 _ (List.mem_of_getElem? h) ci fs rfl
  match ci, h1 with
  | 0, _ => exact ⟨_, rfl, rfl⟩
  | 1, _ => exact ⟨_, rfl, rfl⟩
  | 2, _ => exact ⟨_, rfl, rfl⟩
  | 3, _ => exact ⟨_, rfl, rfl⟩
  | 4, _ => exact ⟨_, rfl, rfl⟩
  | 5, _ => exact ⟨_, rfl, rfl⟩
section SCA
variable {p : Program} {l : Launch} {e : Env} {R : Room} {s : State} {m : MethodId} {args : Array Value} {below : List Frame} {meth : Method} {c : Code} {cells slots : Nat} {Q : State → Prop} {dC : Nat → ClassId} {dI : Nat → Nat → Nat} {cI cR : ClassId} {ad : Nat → Nat} {A : Nat → Prop} {xs : Nat → Int32} {nL o : Nat} {b : ByteArray} {lc : m_Lc} {st : List Value} {D : m_D} {τ ρ : m_St} {tb : List m_E} {pc : Nat} {H : Heap} {locs : List Loc} {ls : Array Slot}
/-- behind a call -/
theorem m_callW {nx : Nat} {st' : List Value} {st0 : List Value} {av : Array Value} (hr : va_Run p l e R s m args below meth c H locs cells slots 0 0 (F0 m pc ls st0) (st'.map (m_va ad)) (m_post dC dI cI cR ad (fun r D' => m_X p l e R s m args below meth c cells slots Q dC dI cI cR ad A xs nL (m_beh nx lc st' r D')) xs (m_A ad H.size) av) (m_A ad H.size)) (hnx : nx = pc + 3) (hA : ∀ q : Nat, s.heap.size ≤ q → A q) (hR : m_Rl s dC dI cI cR ad A xs D H locs) (hl : m_LR ad ls nL lc) : W p l e R s m args below meth c H locs cells slots Q (F0 m pc ls st0) := by
  subst hnx
  obtain ⟨hP, hD, hS, hxs⟩ := hR
  intro T hT X
  obtain ⟨v, st₀, t, T', L, h0, X', hL, e1, e2, ⟨⟨r, D', hv, hX, hP', hx'⟩, hz, hk⟩, stp⟩ := hr T hT X
  have hv : v = r.map (m_va ad) := by
    cases hv
    rfl
  subst hv
  rw [h0] at hz hk
  have hA1 : ∀ q, m_A ad H.size q → A q := by
    intro q h
    rcases h with ⟨i, hi, rfl⟩ | h
    · exact m_D_in hD hi
    · exact hA q (Nat.le_trans hS.1 h)
  have hRel : m_Rl s dC dI cI cR ad A xs D' T'.heap (locs ++ L) := by
    refine ⟨by rw [e1]; exact hP', m_D_any hD, ⟨Nat.le_trans hS.1 (by rw [e1]; exact hz), fun q h1 h2 => ?_, fun q hq => ?_⟩, hx'⟩
    · rw [e1, hk q (Nat.lt_of_lt_of_le h1 hS.1) (fun z => h2 (hA1 q z))]
      exact hS.2.1 q h1 h2
    · rcases List.mem_append.mp hq with h | h
      · exact hS.2.2 q h
      · exact hA1 _ (hL q h)
  have key : W p l e R s m args below meth c T'.heap (locs ++ L) cells slots Q (F0 m (pc + 3) ls ((r.map (m_va ad)).toList ++ st'.map (m_va ad))) := by
    cases r with
    | none => exact hX T'.heap (locs ++ L) ls hRel hl
    | some w => exact hX T'.heap (locs ++ L) ls hRel hl
  obtain ⟨t2, a1, b1⟩ := key T' rfl X'
  exact ⟨t2, stp t2 a1, b1⟩
theorem m_blind {L : Nat} {as : List Value} {sz : Nat} : FrameBlind (m_pre dC dI cI cR ad L as D sz) := by
  intro a U g mk q
  obtain ⟨h1, h2, h3, h4, h5, h6, h7⟩ := q
  exact ⟨h1, h2, h3, va_K.moved (u := U) (U := U.calling g mk a) (Vm.Alike.refl U.vm) h4, h5, va_X.moved (u := U) (U := U.calling g mk a) (Vm.Alike.refl U.vm) h6, h7⟩
theorem m_preOk {L : Nat} (hK : va_K (dC, dI) m_cl (m_tys cI cR) s) (hX : va_X (ad 60) L xs s s.heap) (hX1 : ad 60 < s.heap.size) (hX2 : ¬ A (ad 60)) (hR : m_Rl s dC dI cI cR ad A xs D H locs) (as : List Value) {U : State} (hU : U.heap = H) (hW : s.WarmedH U.vm) : m_pre dC dI cI cR ad L as D H.size (as.map (m_va ad)).toArray U := by
  obtain ⟨hP, hD, hS, hxs⟩ := hR
  refine ⟨rfl, by rw [hU], by rw [hU]; exact hP, va_K.moved hW.alike hK, hD.weaken (fun _ _ _ _ => trivial), ?_, Nat.lt_of_lt_of_le hX1 hS.1, fun i hi z => hX2 (z ▸ m_D_in hD hi)⟩
  rw [hU, hxs]
  exact (va_X.moved hW.alike hX).kept (hS.2.1 _ hX1 hX2)
set_option maxHeartbeats 4000000 in
theorem m_sim_ca (C : m_Cx p s m args c dC dI cI cR b o nL) (hck : tb.all (m_ck b o) = true) {L dp : Nat} (hX : va_X (ad 60) L xs s s.heap) (hX1 : ad 60 < s.heap.size) (hX2 : ¬ A (ad 60)) (hA : ∀ q : Nat, s.heap.size ≤ q → A q) (hcs : cells ≤ R.cells ∧ slots ≤ R.slots)
    (hcall : ∀ (y : Nat) (as : List Value) (D : m_D) (K : m_K) (sz : Nat), y < 169 → m_call L dp y as D K → ∃ d, d + 1 ≤ R.frames ∧ 35 + 35 * d ≤ R.locals ∧ Met l (m_M y).2.1 (m_ws y) (m_rm d) (m_pre dC dI cI cR ad L as D sz) (m_post dC dI cI cR ad K (D 60) (m_A ad sz)) 0 0 (m_A ad sz))
    {y : Nat} {as : List Value} {D1 : m_D} {f : Option Value → m_D → m_St} (h : m_ca tb (pc, lc, st, D) = some (y, as, D1, f)) (k : m_call L dp y as D1 (fun r D' => m_X p l e R s m args below meth c cells slots Q dC dI cI cR ad A xs nL (f r D'))) : m_X p l e R s m args below meth c cells slots Q dC dI cI cR ad A xs nL (pc, lc, st, D) := by
  unfold m_ca at h
  dsimp only at h
  cases hf : m_find tb pc with
  | none => rw [hf] at h; cases h
  | some E =>
    rw [hf] at h
    obtain ⟨hm, hpc⟩ := m_find_spec tb hf
    have hc := List.all_eq_true.mp hck E hm
    obtain ⟨pc', nx, op, j, kk, n, cv, w⟩ := E
    subst hpc
    obtain ⟨hx, hb, hml, hown, hts, hK⟩ := C
    intro H locs ls hR hl
    show W p l e R s m args below meth c H locs cells slots Q (F0 m pc' ls (st.map (m_va ad)))
    have hR : m_Rl s dC dI cI cR ad A xs D H locs := hR
    have hl : m_LR ad ls nL lc := hl
    dsimp only at h
    split at h
    · obtain ⟨as0, st', h, hst, hlen⟩ := m_pop_spec _ _ _ _ _ h
      rw [List.append_nil] at h
      split at h
      · rename_i a as'
        split at h
        · rename_i ci fs hsh
          split at h
          · rename_i hbq
            split at h
            · rename_i hbl
              cases h
              obtain ⟨h1, h5⟩ := m_and hc
              obtain ⟨h1, h4⟩ := m_and h1
              obtain ⟨h1, h3⟩ := m_and h1
              obtain ⟨h1, h6⟩ := m_and h1
              obtain ⟨h1, h2⟩ := m_and h1
              obtain ⟨hd, hnx⟩ := m_is_spec h1
              have h6 : y < 169 := of_decide_eq_true h6
              have h5 : y ∈ m_ins := of_decide_eq_true h5
              have h4 : (m_M y).1 = n.toNat / 16 := of_decide_eq_true h4
              have h3 : (m_M y).2.2.2.2.2.2.1 = n.toNat % 16 := of_decide_eq_true h3
              have h2 : (o, j, y) ∈ m_mls := of_decide_eq_true h2
              have hci : ci = (m_M y).1 := by rw [h4]; exact Nat.eq_of_beq_eq_true hbq
              obtain ⟨c1, c2, c3, c4, c5, c6, c7, c8⟩ := m_ckR_spec (m_M_spec h6).2
              obtain ⟨dd, r1, r2, hM⟩ := hcall y _ D _ H.size h6 k
              have hat := m_w_at (ad := ad) (cI := cI) (cR := cR) (D := D) hsh
              have hclx : ∃ q : vw_C, m_cl[ci]? = some q ∧ q.1 = (m_M y).2.1.cls := by
                have h7 := m_shp_cl hsh
                rw [c3, ← hci]
                exact h7
              obtain ⟨q, hq1, hq2⟩ := hclx
              have hcw : CallW R s args (m_cn o) (m_M y).2.1.cls j (m_M y).2.1 (m_M y).2.2.1 (m_M y).2.2.2.1 (m_M y).2.2.2.2.1 (m_ws y) (m_rm dd) 0 0 (m_M y).2.2.2.2.2.2.1 := by
                refine cwV (ws' := m_TB) _ hts ?_ rfl rfl rfl ⟨rfl, c5, c6, c7⟩ ⟨r1, ?_⟩
                · intro z hz
                  rcases List.mem_append.mp hz with hz | hz
                  · simp only [List.mem_cons, List.not_mem_nil, or_false] at hz
                    rcases hz with rfl | rfl | rfl | rfl
                    · exact m_goodT (mw_ok _ h2)
                    · exact m_goodT (iw_ok _ h5)
                    · exact m_goodT (sw_ok _ h5)
                    · rw [c3]
                      exact m_goodT (nw_ok _ (List.mem_range.mpr c4))
                  · rcases List.mem_cons.mp hz with rfl | hz
                    · exact m_goodT (cw_all _ (m_M_in h6))
                    · exact m_goodT hz
                · show 8 + ((m_M y).2.2.2.1 + 11) + 35 * dd ≤ R.locals
                  omega
              have hlen' : as'.length = (m_M y).2.2.2.2.2.2.1 := by
                rw [h3]
                simpa using hlen
              refine m_callW (st' := st') (va_runV (g := F0 m pc' ls (st.map (m_va ad))) (As := as'.map (m_va ad)) (rest := st'.map (m_va ad)) ⟨hx, hb, hml, hown, hts⟩ (hR.2.2.2 ▸ hM) hcw ⟨m_blind, ?_, fun U hU hW => m_preOk hK hX hX1 hX2 hR (.ref a :: as') hU hW⟩ rfl (by rw [List.length_map]; exact hlen') hl.1 ?_ (lv_room (by rw [m_cats_eq]; exact Nat.le_of_ble_eq_true hbl)) hd ⟨hcs.1, hcs.2⟩) hnx hA hR hl
              · obtain ⟨cell, g1, g2, g3⟩ := va_recv (q0 := a) hK hR.1 hq1 hat
                exact ⟨cell, g1, g2, by rw [← hq2]; exact g3⟩
              · show st.map (m_va ad) = _
                rw [hst]
                simp [m_va]
            · cases h
          · cases h
        · cases h
      · cases h
    · obtain ⟨as0, st', h, hst, hlen⟩ := m_pop_spec _ _ _ _ _ h
      rw [List.append_nil] at h
      split at h
      · rename_i hbl
        cases h
        obtain ⟨h1, h5⟩ := m_and hc
        obtain ⟨h1, h3⟩ := m_and h1
        obtain ⟨h1, h6⟩ := m_and h1
        obtain ⟨h1, h2⟩ := m_and h1
        obtain ⟨hd, hnx⟩ := m_is_spec h1
        have h6 : y < 169 := of_decide_eq_true h6
        have h5 : y ∈ m_sts := of_decide_eq_true h5
        have h3 : (m_M y).2.2.2.2.2.2.1 = n.toNat := of_decide_eq_true h3
        have h2 : (o, j, y) ∈ m_mls := of_decide_eq_true h2
        obtain ⟨c1, c2, c3, c4, c5, c6, c7, c8⟩ := m_ckR_spec (m_M_spec h6).2
        obtain ⟨dd, r1, r2, hM⟩ := hcall y _ D _ H.size h6 k
        have hcw : CallB R s args (m_cn o) j (m_M y).2.1 (m_M y).2.2.1 (m_M y).2.2.2.1 (m_M y).2.2.2.2.1 (m_ws y) (m_rm dd) 0 0 (m_M y).2.2.2.2.2.2.1 := by
          refine callB_of (Ts := m_TB) (ws' := m_TB) _ hts ?_ rfl rfl rfl ?_ (hts _ (mw_ok _ h2)) ⟨c5, c6, c7⟩ ⟨r1, ?_⟩
          · intro z hz
            rcases List.mem_cons.mp hz with rfl | hz
            · exact m_goodT (cw_all _ (m_M_in h6))
            · exact m_goodT hz
          · rw [c3]
            exact hts _ (nw_ok _ (List.mem_range.mpr c4))
          · show 8 + ((m_M y).2.2.2.1 + 11) + 35 * dd ≤ R.locals
            omega
        refine m_callW (st' := st') (va_runS (g := F0 m pc' ls (st.map (m_va ad))) (As := as.map (m_va ad)) (rest := st'.map (m_va ad)) ⟨hx, hb, hml, hown, hts⟩ (hR.2.2.2 ▸ hM) ⟨hcw, hts _ (tw_ok _ h5)⟩ ⟨m_blind, fun U hU hW => m_preOk hK hX hX1 hX2 hR as hU hW⟩ rfl (by rw [List.length_map, h3]; exact hlen) hl.1 ?_ (lv_room (by rw [m_cats_eq]; exact Nat.le_of_ble_eq_true hbl)) hd ⟨hcs.1, hcs.2⟩) hnx hA hR hl
        show st.map (m_va ad) = _
        rw [hst]
        simp
      · cases h
    · cases h
/-- how a method may end -/
def m_isR (b : ByteArray) (rk pc : Nat) (r : Option Value) : Prop := (rk = 0 ∧ r = none ∧ decode b pc = .ok (.return_, 1)) ∨ (∃ v : Int32, r = some (.int v) ∧ decode b pc = .ok (.ireturn, 1) ∧ (rk = 1 ∨ (rk = 2 ∧ (v = 0 ∨ v = 1)))) ∨ (∃ v : Int64, r = some (.long v) ∧ decode b pc = .ok (.lreturn, 1) ∧ rk = 3)
set_option maxHeartbeats 4000000 in
theorem m_sim_rt (hck : tb.all (m_ck b o) = true) {rk : Nat} {Qm : m_K} (hret : ∀ (pc : Nat) (H : Heap) (locs : List Loc) (ls : Array Slot) (r : Option Value) (D : m_D), m_isR b rk pc r → m_Rl s dC dI cI cR ad A xs D H locs → Qm r D → W p l e R s m args below meth c H locs cells slots Q (F0 m pc ls r.toList)) {q : Prop} {r : Option Value} {D1 : m_D} (h : m_rt tb rk (pc, lc, st, D) = some (q, r, D1)) (hq : q) (k : Qm r D1) : m_X p l e R s m args below meth c cells slots Q dC dI cI cR ad A xs nL (pc, lc, st, D) := by
  unfold m_rt at h
  dsimp only at h
  cases hf : m_find tb pc with
  | none => rw [hf] at h; cases h
  | some E =>
    rw [hf] at h
    obtain ⟨hm, hpc⟩ := m_find_spec tb hf
    have hc := List.all_eq_true.mp hck E hm
    obtain ⟨pc', nx, op, j, kk, n, cv, w⟩ := E
    subst hpc
    intro H locs ls hR hl
    show W p l e R s m args below meth c H locs cells slots Q (F0 m pc' ls (st.map (m_va ad)))
    dsimp only at h
    split at h
    · split at h
      · split at h
        · cases h
          exact hret pc' H locs ls none D (Or.inl ⟨rfl, rfl, (m_is_spec hc).1⟩) hR k
        · cases h
      · cases h
    · split at h
      · split at h
        · cases h
          exact hret pc' H locs ls _ D (Or.inr (Or.inl ⟨_, rfl, (m_is_spec hc).1, Or.inl rfl⟩)) hR k
        · cases h
          exact hret pc' H locs ls _ D (Or.inr (Or.inl ⟨_, rfl, (m_is_spec hc).1, Or.inr ⟨rfl, hq⟩⟩)) hR k
        · cases h
      · cases h
    · split at h
      · split at h
        · cases h
          exact hret pc' H locs ls _ D (Or.inr (Or.inr ⟨_, rfl, (m_is_spec hc).1, rfl⟩)) hR k
        · cases h
      · cases h
    · cases h
/-- all that the small machine does, the real one does -/
theorem m_sim (C : m_Cx p s m args c dC dI cI cR b o nL) (hck : tb.all (m_ck b o) = true) {L dp : Nat} (hX : va_X (ad 60) L xs s s.heap) (hX1 : ad 60 < s.heap.size) (hX2 : ¬ A (ad 60)) (hA : ∀ q : Nat, s.heap.size ≤ q → A q) (hcs : cells ≤ R.cells ∧ slots ≤ R.slots) (hdp : 1 ≤ dp → 1 ≤ R.frames ∧ 18 ≤ R.locals)
    (hcall : ∀ (y : Nat) (as : List Value) (D : m_D) (K : m_K) (sz : Nat), y < 169 → m_call L dp y as D K → ∃ d, d + 1 ≤ R.frames ∧ 35 + 35 * d ≤ R.locals ∧ Met l (m_M y).2.1 (m_ws y) (m_rm d) (m_pre dC dI cI cR ad L as D sz) (m_post dC dI cI cR ad K (D 60) (m_A ad sz)) 0 0 (m_A ad sz))
    {rk : Nat} {Qm : m_K} (hret : ∀ (pc : Nat) (H : Heap) (locs : List Loc) (ls : Array Slot) (r : Option Value) (D : m_D), m_isR b rk pc r → m_Rl s dC dI cI cR ad A xs D H locs → Qm r D → W p l e R s m args below meth c H locs cells slots Q (F0 m pc ls r.toList)) {σ : m_St} (h : m_WP L dp (m_call L dp) Qm tb rk σ) : m_X p l e R s m args below meth c cells slots Q dC dI cI cR ad A xs nL σ := by
  refine h _ (fun τ hs => ?_)
  obtain ⟨pc, lc, st, D⟩ := τ
  rcases hs with ⟨τ, a, k⟩ | ⟨q, τ, ρ, a, k, k'⟩ | ⟨q, τ, a, hq, k⟩ | ⟨i, js, f, a, hi, k⟩ | ⟨y, as, D1, f, a, k⟩ | ⟨q, r, D1, a, hq, k⟩ | ⟨x, d, cs, f, a, k⟩
  · exact m_sim_go C hck a k
  · exact m_sim_br C hck a k k'
  · exact m_sim_sd C hck hX hX1 hX2 hdp a hq k
  · exact m_sim_al C hck a hi k
  · exact m_sim_ca C hck hX hX1 hX2 hA hcs hcall a k
  · exact m_sim_rt hck hret a hq k
  · exact m_sim_sw C hck a k
end SCA
set_option maxHeartbeats 4000000 in
theorem m_met_step (l : Launch) (dC : Nat → ClassId) (dI : Nat → Nat → Nat) (cI cR : ClassId) (ad : Nat → Nat) (L d : Nat) (hcall : ∀ (y : Nat) (as : List Value) (D : m_D) (K : m_K) (sz : Nat), y < 169 → m_call L d y as D K → ∃ d', d' + 1 ≤ (m_rm d).frames ∧ 35 + 35 * d' ≤ (m_rm d).locals ∧ Met l (m_M y).2.1 (m_ws y) (m_rm d') (m_pre dC dI cI cR ad L as D sz) (m_post dC dI cI cR ad K (D 60) (m_A ad sz)) 0 0 (m_A ad sz)) (y : Nat) (as : List Value) (D : m_D) (K : m_K) (sz : Nat) (hy : y < 169) (hk : m_call L (d + 1) y as D K) : Met l (m_M y).2.1 (m_ws y) (m_rm d) (m_pre dC dI cI cR ad L as D sz) (m_post dC dI cI cR ad K (D 60) (m_A ad sz)) 0 0 (m_A ad sz) := by
  obtain ⟨lc, hent, hwp⟩ := hk
  obtain ⟨hck, hckR⟩ := m_M_spec hy
  obtain ⟨c1, c2, c3, c4, c5, c6, c7, c8⟩ := m_ckR_spec hckR
  refine va_MetF (cc := (m_M y).2.2.1) (maxL := (m_M y).2.2.2.1) (ret := (m_M y).2.2.2.2.1) (ws' := m_TB) c2 rfl ?_
  intro p e s m args below meth c s₁ B hml hv
  obtain ⟨rfl, hsz, hP, hK, hD0, hX, hX1, hX2⟩ := hv
  have hx := B.exec
  have hb := B.bytes
  have hr := B.returns
  have hts0 := atoms_spec (ws := m_ws y) B.pre
  have hts : ∀ w ∈ m_TB, w.before (as.map (m_va ad)).toArray s = true := fun w h => hts0 w (List.mem_cons_of_mem _ h)
  have hown : s.vm.findClass (m_cn (m_M y).1) = some m.cls := by rw [← c3]; exact findClass_of_methodNamed B.named
  have hlocks := B.notSynchronized
  subst hsz
  have hD : va_D (m_A ad s.heap.size) (m_w ad cI cR D) := m_D_self hD0
  have hA : ∀ q : Nat, s.heap.size ≤ q → m_A ad s.heap.size q := fun q h => Or.inr h
  have hX3 : ¬ m_A ad s.heap.size (ad 60) := by
    rintro (⟨i, hi, h⟩ | h)
    · exact hX2 i hi h.symm
    · exact absurd hX1 (Nat.not_lt.mpr h)
  obtain ⟨lc', e1, e2, e3, e4⟩ := m_ent_spec ad _ 0 as _ _ hent
  cases e1
  have hl := lv_entry (as.map (m_va ad)) (n := (m_M y).2.2.2.1) e3
  rw [lg_entry_eq]
  generalize (lg_sl (as.map (m_va ad)) ++ List.replicate ((m_M y).2.2.2.1 - (lg_sl (as.map (m_va ad))).length) Slot.unset).toArray = ls at hl ⊢
  have hLR : m_LR ad ls (m_M y).2.2.2.1 lc := by
    refine ⟨hl.1, hl.2.1, e2, fun i v hv => ?_⟩
    have := hl.2.2 _ (e4 i v hv)
    simpa using this
  have hret : ∀ (pc : Nat) (H : Heap) (locs : List Loc) (ls : Array Slot) (r : Option Value) (D' : m_D), m_isR (m_M y).2.2.1 (m_M y).2.2.2.2.2.1 pc r → m_Rl s dC dI cI cR ad (m_A ad s.heap.size) (D 60) D' H locs → K r D' → W p l e (headSpec (m_ws y) (m_rm d)).room s m (as.map (m_va ad)).toArray below meth c H locs 0 0 (MQ below (m_post dC dI cI cR ad K (D 60) (m_A ad s.heap.size)) (as.map (m_va ad)).toArray s 0 0 (m_A ad s.heap.size)) (F0 m pc ls r.toList) := by
    intro pc H locs ls r D' hi hR hQ
    obtain ⟨hP', hD', hS', hxs'⟩ := hR
    have hq : ∀ t : State, t.heap = H → s.WarmedH t.vm → m_post dC dI cI cR ad K (D 60) (m_A ad s.heap.size) (as.map (m_va ad)).toArray s (.returned (r.map (m_va ad))) t := fun t ht _ => ⟨⟨r, D', rfl, hQ, by rw [ht]; exact hP', hxs'⟩, hS'.F ht⟩
    rcases hi with ⟨a1, rfl, a3⟩ | ⟨v, rfl, a2, a3⟩ | ⟨v, rfl, a2, a3⟩
    · rcases c8 with ⟨b1, b2⟩ | ⟨b1, b2⟩ | ⟨b1, b2⟩ | ⟨b1, b2⟩
      · exact W.vret hx hb (by rw [hr, b2]) hq hS'.2.2 a3
      · omega
      · omega
      · omega
    · rcases a3 with a3 | ⟨a3, a4⟩
      · rcases c8 with ⟨b1, b2⟩ | ⟨b1, b2⟩ | ⟨b1, b2⟩ | ⟨b1, b2⟩
        · omega
        · exact W.iret hx hb (by rw [hr, b2]) hq hS'.2.2 a2
        · omega
        · omega
      · rcases c8 with ⟨b1, b2⟩ | ⟨b1, b2⟩ | ⟨b1, b2⟩ | ⟨b1, b2⟩
        · omega
        · omega
        · exact W.zret (ty := .boolean) hx hb (by rw [hr, b2]) (by rcases a4 with rfl | rfl <;> rfl) hq hS'.2.2 a2
        · omega
    · rcases c8 with ⟨b1, b2⟩ | ⟨b1, b2⟩ | ⟨b1, b2⟩ | ⟨b1, b2⟩
      · omega
      · omega
      · omega
      · exact W.lret hx hb (by rw [hr, b2]) hq hS'.2.2 a2
  have hdp : 1 ≤ d → 1 ≤ (headSpec (m_ws y) (m_rm d)).room.frames ∧ 18 ≤ (headSpec (m_ws y) (m_rm d)).room.locals := fun h => ⟨h, by show 18 ≤ 35 * d; omega⟩
  exact m_sim (R := (headSpec (m_ws y) (m_rm d)).room) (cells := 0) (slots := 0) ⟨hx, hb, hml, hown, hts, hK⟩ hck hX hX1 hX3 hA ⟨Nat.zero_le _, Nat.zero_le _⟩ hdp hcall hret hwp s.heap [] ls ⟨hP, hD, va_S.rf, rfl⟩ hLR
set_option maxHeartbeats 4000000 in
/-- every method, at every depth -/
theorem m_met (l : Launch) (dC : Nat → ClassId) (dI : Nat → Nat → Nat) (cI cR : ClassId) (ad : Nat → Nat) (L : Nat) : ∀ (d y : Nat) (as : List Value) (D : m_D) (K : m_K) (sz : Nat), y < 169 → m_call L (d + 1) y as D K → Met l (m_M y).2.1 (m_ws y) (m_rm d) (m_pre dC dI cI cR ad L as D sz) (m_post dC dI cI cR ad K (D 60) (m_A ad sz)) 0 0 (m_A ad sz) := by
  intro d
  induction d with
  | zero =>
    intro y as D K sz hy hk
    exact m_met_step l dC dI cI cR ad L 0 (fun y as D K sz _ h => absurd h (by simp [m_call])) y as D K sz hy hk
  | succ d ih =>
    intro y as D K sz hy hk
    exact m_met_step l dC dI cI cR ad L (d + 1) (fun y as D K sz h1 h2 => ⟨d, Nat.le_refl _, by show 35 + 35 * d ≤ 35 * (d + 1); omega, ih y as D K sz h1 h2⟩) y as D K sz hy hk
end
section
/-! ===== the document's rain, as functions: a shower is (lines, criers, rows 0 drops 1 field 2 kind 3 pace 4 start, who coughs) ===== -/
abbrev SH : Type := Nat × Nat × (Nat → Nat → Nat) × (Nat → Nat → Bool)
def oI : Option Nat → Int32
  | none => -9
  | some n => nI n
def p_hb (l s p : Nat) : Option Nat := if l < s then none else some ((l - s) / p)
def p_nx (t : Option Nat) (c : Nat) (q : Option Nat × Option Nat) : Option Nat × Option Nat := match t, q with
  | none, q => q
  | some t, (none, _) => (some t, some c)
  | some t, (some u, w) => if t < u then (some t, some c) else if t = u then (some u, none) else (some u, w)
def p_fr (S : SH) (l : Nat) : Nat → Option Nat × Option Nat
  | 0 => (none, none)
  | c + 1 => p_nx (p_hb l (S.2.2.1 4 c) (S.2.2.1 3 c)) c (p_fr S l c)
def p_hour (S : SH) (l : Nat) : Option Nat := (p_fr S l S.2.1).1
def p_by (S : SH) (l : Nat) : Option Nat := (p_fr S l S.2.1).2
def p_give (kd dr : Nat) : Nat := match kd with
  | 0 => dr
  | 1 => dr - 1
  | _ => (dr - 1) + dr
def p_amt (S : SH) (l : Nat) : Nat := match p_by S l with
  | none => 0
  | some c => p_give (S.2.2.1 2 c) (S.2.2.1 0 l)
def p_to (cg : Nat → Nat → Bool) (f t : Nat) : Option Nat := if cg f t = false then some f else if cg ((f + 1) % 4) t = false then some ((f + 1) % 4) else none
def p_dst (S : SH) (l : Nat) : Option Nat := match p_fr S l S.2.1 with
  | (some h, some _) => p_to S.2.2.2 (S.2.2.1 1 l) h
  | _ => none
def p_wet (S : SH) (f : Nat) : Nat → Nat
  | 0 => 0
  | l + 1 => p_wet S f l + (if p_dst S l = some f then p_amt S l else 0)
def p_came (S : SH) (f t : Nat) : Nat → Nat
  | 0 => 0
  | l + 1 => p_came S f t l + (if p_dst S l = some f ∧ p_hour S l = some t then p_amt S l else 0)
def p_lost (S : SH) : Nat → Nat
  | 0 => 0
  | l + 1 => p_lost S l + (if p_dst S l = none then p_amt S l else 0)
def p_hang (S : SH) : Nat → Int32
  | 0 => 0
  | l + 1 => if p_hour S l = none then p_hang S l ||| (1 <<< (nI l &&& 31)) else p_hang S l
def p_mud (S : SH) : Nat → Int32
  | 0 => 0
  | l + 1 => if ¬ p_hour S l = none ∧ p_by S l = none then p_mud S l ||| (1 <<< (nI l &&& 31)) else p_mud S l
/-- what a shower may be -/
def okS (S : SH) : Prop := S.1 ≤ 6 ∧ S.2.1 ≤ 3 ∧ (∀ l, l < S.1 → S.2.2.1 0 l ≤ 9 ∧ S.2.2.1 1 l < 4) ∧ ∀ c, c < S.2.1 → S.2.2.1 2 c ≤ 2 ∧ 1 ≤ S.2.2.1 3 c ∧ S.2.2.1 3 c ≤ 3 ∧ S.2.2.1 4 c < S.1
def b_sum (b : Nat → Bool) : Nat → Nat
  | 0 => 0
  | n + 1 => b_sum b n + (if b n then 2 ^ n else 0)
/-- a shower of the class at a cell, and the reference's -/
def relC (B : Nat) (D : m_D) (S : SH) : Prop := D B 0 = nI S.1 ∧ D B 1 = nI S.2.1 ∧ (∀ l, l < S.1 → D (B + 1) l = nI (S.2.2.1 0 l) ∧ D (B + 2) l = nI (S.2.2.1 1 l)) ∧ (∀ c, c < S.2.1 → D (B + 3) c = nI (S.2.2.1 2 c) ∧ D (B + 4) c = nI (S.2.2.1 3 c) ∧ D (B + 5) c = nI (S.2.2.1 4 c)) ∧ ∀ t, t < 6 → D (B + 6) t = nI (b_sum (fun f => S.2.2.2 f t) 4)
def relM (D : m_D) (S : SH) : Prop := D 34 1 = nI S.1 ∧ D 34 2 = nI S.2.1 ∧ (∀ l, l < S.1 → D 35 l = nI (S.2.2.1 0 l) ∧ D 36 l = nI (S.2.2.1 1 l)) ∧ (∀ c, c < S.2.1 → D 37 c = nI (S.2.2.1 2 c) ∧ D 38 c = nI (S.2.2.1 3 c) ∧ D 39 c = nI (S.2.2.1 4 c)) ∧ ∀ f, f < 4 → D 40 f = nI (b_sum (fun t => S.2.2.2 f t) 6)
theorem oI_none : oI none = -9 := rfl
theorem oI_some (n : Nat) : oI (some n) = nI n := rfl
theorem nI_m9 {n : Nat} (h : n < 2 ^ 31) : ¬ nI n = -9 := by
  intro e
  have h1 := congrArg Int32.toInt e
  rw [nI_toInt h] at h1
  have h2 : (-9 : Int32).toInt = -9 := by decide
  omega
theorem p_hb_le {l s p h : Nat} (e : p_hb l s p = some h) : h ≤ l := by
  unfold p_hb at e
  split at e
  · cases e
  · cases e
    exact Nat.le_trans (Nat.div_le_self _ _) (Nat.sub_le _ _)
theorem p_fr_ok (S : SH) (l : Nat) : ∀ c, (∀ h, (p_fr S l c).1 = some h → h ≤ l) ∧ (∀ w, (p_fr S l c).2 = some w → w < c ∧ (p_fr S l c).1 ≠ none)
  | 0 => ⟨fun h e => (by cases e), fun w e => (by cases e)⟩
  | c + 1 => by
    obtain ⟨h1, h2⟩ := p_fr_ok S l c
    have e : p_fr S l (c + 1) = p_nx (p_hb l (S.2.2.1 4 c) (S.2.2.1 3 c)) c (p_fr S l c) := rfl
    rw [e]
    cases ht : p_hb l (S.2.2.1 4 c) (S.2.2.1 3 c) with
    | none => exact ⟨h1, fun w hw => ⟨Nat.lt_succ_of_lt (h2 w hw).1, (h2 w hw).2⟩⟩
    | some t =>
      have ht' := p_hb_le ht
      rcases hq : p_fr S l c with ⟨a, w0⟩
      rw [hq] at h1 h2
      cases a with
      | none => exact ⟨fun h e => (by cases e; exact ht'), fun w e => (by cases e; exact ⟨Nat.lt_succ_self _, fun z => (by cases z)⟩)⟩
      | some u =>
        unfold p_nx
        dsimp only
        split
        · exact ⟨fun h e => (by cases e; exact ht'), fun w e => (by cases e; exact ⟨Nat.lt_succ_self _, fun z => (by cases z)⟩)⟩
        · split
          · exact ⟨fun h e => (by cases e; exact h1 u rfl), fun w e => (by cases e)⟩
          · exact ⟨fun h e => (by cases e; exact h1 u rfl), fun w e => ⟨Nat.lt_succ_of_lt (h2 w e).1, fun z => (by cases z)⟩⟩
theorem v_bT {L d : Nat} {Q : m_K} {tb : List m_E} {rk : Nat} {σ τ ρ : m_St} {q : Prop} (h : m_br tb σ = some (q, τ, ρ)) (hq : q) (k : m_V L d Q tb rk τ) : m_V L d Q tb rk σ := v_br h (fun _ => k) (fun z => absurd hq z)
theorem v_bF {L d : Nat} {Q : m_K} {tb : List m_E} {rk : Nat} {σ τ ρ : m_St} {q : Prop} (h : m_br tb σ = some (q, τ, ρ)) (hq : ¬ q) (k : m_V L d Q tb rk ρ) : m_V L d Q tb rk σ := v_br h (fun z => absurd z hq) (fun _ => k)
/-- a step that asks something, then on -/
theorem b_get4 : ∀ b0 b1 b2 b3 : Bool, ∀ f : Fin 4, (nI ((((0 + if b0 then 2 ^ 0 else 0) + if b1 then 2 ^ 1 else 0) + if b2 then 2 ^ 2 else 0) + if b3 then 2 ^ 3 else 0) >>> (nI f.val &&& 31)) &&& 1 = if (match f with
  | 0 => b0
  | 1 => b1
  | 2 => b2
  | 3 => b3) then 1 else 0 := by decide +kernel
theorem b_bit4 (b : Nat → Bool) {f : Nat} (hf : f < 4) : (nI (b_sum b 4) >>> (nI f &&& 31)) &&& 1 = if b f then 1 else 0 := by
  have h := b_get4 (b 0) (b 1) (b 2) (b 3) ⟨f, hf⟩
  have e : b_sum b 4 = ((((0 + if b 0 then 2 ^ 0 else 0) + if b 1 then 2 ^ 1 else 0) + if b 2 then 2 ^ 2 else 0) + if b 3 then 2 ^ 3 else 0) := rfl
  rw [e, h]
  match f, hf with
  | 0, _ => rfl
  | 1, _ => rfl
  | 2, _ => rfl
  | 3, _ => rfl
theorem b_get6 : ∀ b0 b1 b2 b3 b4 b5 : Bool, ∀ f : Fin 6, (nI ((((((0 + if b0 then 2 ^ 0 else 0) + if b1 then 2 ^ 1 else 0) + if b2 then 2 ^ 2 else 0) + if b3 then 2 ^ 3 else 0) + if b4 then 2 ^ 4 else 0) + if b5 then 2 ^ 5 else 0) >>> (nI f.val &&& 31)) &&& 1 = if (match f with
  | 0 => b0
  | 1 => b1
  | 2 => b2
  | 3 => b3
  | 4 => b4
  | 5 => b5) then 1 else 0 := by decide +kernel
theorem b_bit6 (b : Nat → Bool) {f : Nat} (hf : f < 6) : (nI (b_sum b 6) >>> (nI f &&& 31)) &&& 1 = if b f then 1 else 0 := by
  have h := b_get6 (b 0) (b 1) (b 2) (b 3) (b 4) (b 5) ⟨f, hf⟩
  have e : b_sum b 6 = ((((((0 + if b 0 then 2 ^ 0 else 0) + if b 1 then 2 ^ 1 else 0) + if b 2 then 2 ^ 2 else 0) + if b 3 then 2 ^ 3 else 0) + if b 4 then 2 ^ 4 else 0) + if b 5 then 2 ^ 5 else 0) := rfl
  rw [e, h]
  match f, hf with
  | 0, _ => rfl
  | 1, _ => rfl
  | 2, _ => rfl
  | 3, _ => rfl
  | 4, _ => rfl
  | 5, _ => rfl
/-- of the rows of D outside some cells nothing changes -/
def m_fr (Z : List Nat) (D D' : m_D) : Prop := ∀ a, a ∉ Z → D' a = D a
theorem m_fr.refl (Z : List Nat) (D : m_D) : m_fr Z D D := fun _ _ => rfl
theorem m_fr.trans {Z : List Nat} {D D1 D2 : m_D} (h : m_fr Z D D1) (g : m_fr Z D1 D2) : m_fr Z D D2 := fun a ha => (g a ha).trans (h a ha)
theorem m_fr.up {Z : List Nat} {D D1 : m_D} {i j : Nat} {v : Int32} (h : m_fr Z D D1) (hi : i ∈ Z) : m_fr Z D (m_up D1 i j v) := fun a ha => (m_up_ne (D := D1) (i := i) (a := a) (fun z => ha (by rw [z]; exact hi))).trans (h a ha)
theorem m_fr.sub {Z Y : List Nat} {D D1 : m_D} (h : m_fr Z D D1) (hs : ∀ a, a ∈ Z → a ∈ Y) : m_fr Y D D1 := fun a ha => h a (fun z => ha (hs a z))
theorem m_up_s {D : m_D} {i j : Nat} {v : Int32} : m_up D i j v i j = v := by rw [m_up_at, pk_us]
theorem m_up_n {D : m_D} {i j b : Nat} {v : Int32} (h : b ≠ j) : m_up D i j v i b = D i b := by rw [m_up_at, pk_un h]
end
section
/-! ===== the class's rain: Arrays.fill, hourOfReading, given, coughs, goesTo, findReader ===== -/
theorem c_hor {L d B c l : Nat} {S : SH} {D : m_D} {Q : m_K} (hB : B = 1 ∨ B = 8) (hr : relC B D S) (ho : okS S) (hc : c < S.2.1) (hl : l < 6) (h : Q (some (.int (oI (p_hb l (S.2.2.1 4 c) (S.2.2.1 3 c))))) D) : m_call L (d + 1) 13 [.ref B, .int (nI c), .int (nI l)] D Q := by
  obtain ⟨-, -, -, r4, -⟩ := hr
  obtain ⟨-, r5, r6⟩ := r4 c hc
  obtain ⟨o1, o2, -, o4⟩ := ho
  obtain ⟨-, o5, o6, o7⟩ := o4 c hc
  have hcl : (nI c).toNatClampNeg = c := nI_clamp (by omega)
  have hin : vp_in (nI c) 3 := vp_in_nI (by omega) (by omega)
  rcases hB with rfl | rfl
  all_goals
    refine v_in (tb' := t_X2_hourOfReading) (rk' := 1) rfl rfl rfl ?_
    refine v_go rfl ?_
    refine v_sd rfl hin ?_
    refine v_go rfl ?_
    refine v_sd rfl hin ?_
    rw [hcl]
    unfold p_hb at h
    by_cases hlt : l < S.2.2.1 4 c
    · rw [if_pos hlt] at h
      refine v_bT rfl (by rw [r6]; exact nI_lt hlt (by omega)) ?_
      refine v_go rfl ?_
      exact v_rt rfl trivial h
    · rw [if_neg hlt] at h
      refine v_bF rfl (by rw [r6]; exact nI_nlt (by omega) (by omega)) ?_
      refine v_go rfl ?_
      refine v_bT rfl (by rw [r5]; exact nI_le (a := 1) o5 (by omega)) ?_
      refine v_go rfl ?_
      refine v_sd rfl hin ?_
      rw [hcl]
      refine v_go rfl ?_
      refine v_sd rfl (by rw [r5]; exact nI_ne0 (by omega) (by omega)) ?_
      refine v_go rfl ?_
      refine v_rt rfl trivial ?_
      rw [r5, r6, pk_sub (by omega), pk_div (by omega) (by omega) (by omega)]
      exact h
theorem c_max {L d dr : Nat} {D : m_D} {Q : m_K} (hd : dr ≤ 9) (h : Q (some (.int (nI (dr - 1)))) D) : m_call L (d + 1) 168 [.int (nI dr - 1), .int 0] D Q := by
  refine v_in (tb' := t_J9_max_7cf53) (rk' := 1) rfl rfl rfl ?_
  refine v_go rfl ?_
  cases dr with
  | zero =>
    refine v_bT rfl (by decide) ?_
    refine v_go rfl ?_
    exact v_rt rfl trivial h
  | succ dr =>
    rw [nI_pred]
    refine v_bF rfl (by exact nI_pos (by omega)) ?_
    refine v_go rfl ?_
    exact v_rt rfl trivial h
theorem c_given {L d B c dr : Nat} {S : SH} {D : m_D} {Q : m_K} (hB : B = 1 ∨ B = 8) (hr : relC B D S) (ho : okS S) (hc : c < S.2.1) (hd : dr ≤ 9) (h : Q (some (.int (nI (p_give (S.2.2.1 2 c) dr)))) D) : m_call L (d + 2) 14 [.ref B, .int (nI c), .int (nI dr)] D Q := by
  obtain ⟨-, -, -, r4, -⟩ := hr
  obtain ⟨r5, -, -⟩ := r4 c hc
  obtain ⟨o1, o2, -, o4⟩ := ho
  obtain ⟨o5, -⟩ := o4 c hc
  have hcl : (nI c).toNatClampNeg = c := nI_clamp (by omega)
  have hin : vp_in (nI c) 3 := vp_in_nI (by omega) (by omega)
  generalize S.2.2.1 2 c = kd at *
  rcases hB with rfl | rfl
  all_goals
    refine v_in (tb' := t_X2_given) (rk' := 1) rfl rfl rfl ?_
    refine v_go rfl ?_
    refine v_ca rfl ?_
    refine c_max hd ?_
    refine v_go rfl ?_
    refine v_sd rfl hin ?_
    rw [hcl, r5]
    refine v_sw rfl ?_
    match kd, o5, h with
    | 0, _, h =>
      refine br_c (fun _ => ?_) (fun z => absurd (by decide) z)
      refine v_go rfl ?_
      exact v_rt rfl trivial h
    | 1, _, h =>
      refine br_c (fun z => absurd z (by decide)) (fun _ => ?_)
      refine br_c (fun _ => ?_) (fun z => absurd (by decide) z)
      refine v_go rfl ?_
      exact v_rt rfl trivial h
    | 2, _, h =>
      refine br_c (fun z => absurd z (by decide)) (fun _ => ?_)
      refine br_c (fun z => absurd z (by decide)) (fun _ => ?_)
      refine v_go rfl ?_
      refine v_rt rfl trivial ?_
      rw [nI_add]
      exact h
theorem c_coughs {L d B f t : Nat} {S : SH} {D : m_D} {Q : m_K} (hB : B = 1 ∨ B = 8) (hr : relC B D S) (hf : f < 4) (ht : t < 6) (h1 : S.2.2.2 f t = true → Q (some (.int 1)) D) (h0 : S.2.2.2 f t = false → Q (some (.int 0)) D) : m_call L (d + 1) 15 [.ref B, .int (nI f), .int (nI t)] D Q := by
  obtain ⟨-, -, -, -, r5⟩ := hr
  have r6 := r5 t ht
  have hcl : (nI t).toNatClampNeg = t := nI_clamp (by omega)
  have hin : vp_in (nI t) 6 := vp_in_nI (by omega) (by omega)
  have hb := b_bit4 (fun f => S.2.2.2 f t) hf
  rcases hB with rfl | rfl
  all_goals
    refine v_in (tb' := t_X2_coughs) (rk' := 2) rfl rfl rfl ?_
    refine v_go rfl ?_
    refine v_sd rfl hin ?_
    rw [hcl, r6]
    refine v_go rfl ?_
    rw [hb]
    cases hg : S.2.2.2 f t with
    | true =>
      refine v_bF rfl (by decide) ?_
      refine v_go rfl ?_
      exact v_rt rfl (Or.inr rfl) (h1 hg)
    | false =>
      refine v_bT rfl (by decide) ?_
      refine v_go rfl ?_
      exact v_rt rfl (Or.inl rfl) (h0 hg)
theorem c_goesTo {L d B f t : Nat} {S : SH} {D : m_D} {Q : m_K} (hB : B = 1 ∨ B = 8) (hr : relC B D S) (hf : f < 4) (ht : t < 6) (h : Q (some (.int (oI (p_to S.2.2.2 f t)))) D) : m_call L (d + 2) 18 [.ref B, .int (nI f), .int (nI t)] D Q := by
  have hB0 := hB
  have e4 : nI f + 1 - (nI f + 1) / 4 * 4 = nI ((f + 1) % 4) := by
    rw [nI_1]
    exact pk_rem (d := 4) (by omega) (by omega) (by omega)
  have h4 : (f + 1) % 4 < 4 := Nat.mod_lt _ (by omega)
  unfold p_to at h
  rcases hB with rfl | rfl
  all_goals
    refine v_in (tb' := t_X2_goesTo) (rk' := 1) rfl rfl rfl ?_
    refine v_go rfl ?_
    refine v_ca rfl ?_
    refine c_coughs hB0 hr hf ht (fun hg => ?_) (fun hg => ?_)
    · rw [if_neg (by rw [hg]; decide)] at h
      refine v_go rfl ?_
      refine v_bT rfl (by decide) ?_
      refine v_go rfl ?_
      refine v_sd rfl (by decide) ?_
      rw [e4]
      refine v_go rfl ?_
      refine v_ca rfl ?_
      refine c_coughs hB0 hr h4 ht (fun hg2 => ?_) (fun hg2 => ?_)
      · rw [if_neg (by rw [hg2]; decide)] at h
        refine v_go rfl ?_
        refine v_bF rfl (by decide) ?_
        refine v_go rfl ?_
        exact v_rt rfl trivial h
      · rw [if_pos hg2] at h
        refine v_go rfl ?_
        refine v_bT rfl (by decide) ?_
        refine v_go rfl ?_
        exact v_rt rfl trivial h
    · rw [if_pos hg] at h
      refine v_go rfl ?_
      refine v_bF rfl (by decide) ?_
      refine v_go rfl ?_
      exact v_rt rfl trivial h
/-- Arrays.fill over one of the class's rows -/
theorem c_fill {L d a n : Nat} {v : Int32} {D : m_D} {Q : m_K} (ha : (a, n) ∈ [(19, 24), (20, 4), (7, 6), (14, 6), (25, 60), (27, 60), (29, 60), (31, 60)]) (h : ∀ D', m_fr [a] D D' → (∀ j, j < n → D' a j = v) → Q none D') : m_call L (d + 1) 167 [.ref a, .int v] D Q := by
  have key : ∀ (m i : Nat) (D1 : m_D), i + m = n → m_fr [a] D D1 → (∀ j, j < i → D1 a j = v) → m_V L d Q t_J7_fill_53178 0 (5, [some (.ref a), some (.int v), some (.int (nI i)), some (.int (nI n))], [], D1) := by
    intro m
    induction m with
    | zero =>
      intro i D1 hi hf hv
      have hi : i = n := by omega
      subst hi
      have hle : nI i ≤ nI i := Int32.le_refl _
      refine v_go rfl ?_
      refine v_bT rfl hle ?_
      exact v_rt rfl trivial (h D1 hf hv)
    | succ m ih =>
      intro i D1 hi hf hv
      have hn : n ≤ 60 := by
        simp only [List.mem_cons, Prod.mk.injEq, List.not_mem_nil, or_false] at ha
        omega
      refine v_go rfl ?_
      refine v_bF rfl (nI_ge (by omega) (by omega)) ?_
      refine v_go rfl ?_
      have hin : vp_in (nI i) n := vp_in_nI (by omega) (by omega)
      have hk := ih (i + 1) (m_up D1 a i v) (by omega) (hf.up (by simp)) (fun j hj => by
        by_cases e : j = i
        · rw [e, m_up_s]
        · rw [m_up_n e]
          exact hv j (by omega))
      have hcl : (nI i).toNatClampNeg = i := nI_clamp (by omega)
      rw [← nI_1] at hk
      simp only [List.mem_cons, Prod.mk.injEq, List.not_mem_nil, or_false] at ha
      rcases ha with ⟨rfl, rfl⟩ | ⟨rfl, rfl⟩ | ⟨rfl, rfl⟩ | ⟨rfl, rfl⟩ | ⟨rfl, rfl⟩ | ⟨rfl, rfl⟩ | ⟨rfl, rfl⟩ | ⟨rfl, rfl⟩
      all_goals
        refine v_sd rfl hin ?_
        rw [hcl]
        exact v_run 2 rfl hk
  have hk := key n 0 D (by omega) (m_fr.refl _ _) (fun j hj => absurd hj (by omega))
  simp only [List.mem_cons, Prod.mk.injEq, List.not_mem_nil, or_false] at ha
  rcases ha with ⟨rfl, rfl⟩ | ⟨rfl, rfl⟩ | ⟨rfl, rfl⟩ | ⟨rfl, rfl⟩ | ⟨rfl, rfl⟩ | ⟨rfl, rfl⟩ | ⟨rfl, rfl⟩ | ⟨rfl, rfl⟩
  all_goals
    refine v_in (tb' := t_J7_fill_53178) (rk' := 0) rfl rfl rfl ?_
    refine v_go rfl ?_
    refine v_sd rfl trivial ?_
    exact v_run 1 rfl hk
end
section
/-! ===== findReader, bringDown, workOut ===== -/
theorem oI_ne9 {t : Nat} (h : t < 100) : ¬ oI (some t) = -9 := nI_m9 (by omega)
theorem c_findReader {L d B l : Nat} {S : SH} {D : m_D} {Q : m_K} (hB : B = 1 ∨ B = 8) (hr : relC B D S) (ho : okS S) (hl : l < S.1) (h : Q none (m_up (m_up D 16 l (oI (p_hour S l))) 17 l (oI (p_by S l)))) : m_call L (d + 2) 1 [.ref 15, .ref B, .int (nI l)] D Q := by
  have hl6 : l < 6 := Nat.lt_of_lt_of_le hl ho.1
  have hk3 : S.2.1 ≤ 3 := ho.2.1
  have hcl : (nI l).toNatClampNeg = l := nI_clamp (by omega)
  have hin : vp_in (nI l) 6 := vp_in_nI (by omega) (by omega)
  have hkB : D B 1 = nI S.2.1 := hr.2.1
  have key : ∀ (m c : Nat) (o : Option Value), c + m = S.2.1 → m_V L (d + 1) Q t_X0_findReader 0 (10, [some (.ref 15), some (.ref B), some (.int (nI l)), some (.int (oI (p_fr S l c).1)), some (.int (oI (p_fr S l c).2)), some (.int (nI c)), o], [], D) := by
    intro m
    induction m with
    | zero =>
      intro c o hc
      have hc : c = S.2.1 := by omega
      subst hc
      rcases hB with rfl | rfl
      all_goals
        refine v_go rfl ?_
        rw [hkB]
        refine v_bT rfl (Int32.le_refl _) ?_
        refine v_go rfl ?_
        refine v_sd rfl hin ?_
        rw [hcl]
        refine v_go rfl ?_
        refine v_sd rfl hin ?_
        rw [hcl]
        exact v_rt rfl trivial h
    | succ m ih =>
      intro c o hc
      have hfr := p_fr_ok S l c
      have e : p_fr S l (c + 1) = p_nx (p_hb l (S.2.2.1 4 c) (S.2.2.1 3 c)) c (p_fr S l c) := rfl
      have ih := fun o => ih (c + 1) o (by omega)
      rw [e, ← nI_1] at ih
      rcases hq : p_fr S l c with ⟨u, w⟩
      rw [hq] at ih hfr
      have hB0 := hB
      rcases hB with rfl | rfl
      all_goals
        refine v_go rfl ?_
        rw [hkB]
        refine v_bF rfl (nI_ge (by omega) (by omega)) ?_
        refine v_go rfl ?_
        refine v_ca rfl ?_
        refine c_hor hB0 hr ho (by omega) hl6 ?_
        cases ht : p_hb l (S.2.2.1 4 c) (S.2.2.1 3 c) with
        | none =>
          rw [ht] at ih
          refine v_go rfl ?_
          refine v_bT rfl rfl ?_
          refine v_go rfl ?_
          refine v_bT rfl rfl ?_
          exact v_run 2 rfl (ih _)
        | some t =>
          rw [ht] at ih
          have ht5 := p_hb_le ht
          refine v_go rfl ?_
          refine v_bF rfl (oI_ne9 (by omega)) ?_
          refine v_go rfl ?_
          cases u with
          | none =>
            refine v_bT rfl rfl ?_
            exact v_run 7 rfl (ih _)
          | some u =>
            have hu := hfr.1 u rfl
            refine v_bF rfl (oI_ne9 (by omega)) ?_
            refine v_go rfl ?_
            unfold p_nx at ih
            dsimp only at ih
            by_cases h1 : t < u
            · rw [if_pos h1] at ih
              refine v_bF rfl (nI_ge h1 (by omega)) ?_
              exact v_run 7 rfl (ih _)
            · rw [if_neg h1] at ih
              refine v_bT rfl (nI_le (by omega) (by omega)) ?_
              refine v_go rfl ?_
              refine v_bF rfl (oI_ne9 (by omega)) ?_
              refine v_go rfl ?_
              by_cases h2 : t = u
              · rw [if_pos h2] at ih
                subst h2
                refine v_bF rfl (fun z => z rfl) ?_
                exact v_run 4 rfl (ih _)
              · rw [if_neg h2] at ih
                refine v_bT rfl (fun z => h2 ((nI_eq (by omega) (by omega)).mp z)) ?_
                exact v_run 2 rfl (ih _)
  have hk := key S.2.1 0 none (by omega)
  rcases hB with rfl | rfl
  all_goals
    refine v_in (tb' := t_X0_findReader) (rk' := 0) rfl rfl rfl ?_
    exact v_run 6 rfl hk
/-- what has fallen after so many lines, in the class's rows -/
def relF (S : SH) (l : Nat) (D : m_D) : Prop := (∀ i, i < l → D 16 i = oI (p_hour S i) ∧ D 17 i = oI (p_by S i) ∧ D 18 i = nI (p_amt S i)) ∧ (∀ f t, f < 4 → t < 6 → D 19 (f * 6 + t) = nI (p_came S f t l)) ∧ (∀ f, f < 4 → D 20 f = nI (p_wet S f l)) ∧ D 15 5 = p_hang S l ∧ D 15 6 = p_mud S l ∧ D 15 7 = nI (p_lost S l)
theorem p_dst_to {S : SH} {l h c : Nat} (e1 : p_hour S l = some h) (e2 : p_by S l = some c) : p_dst S l = p_to S.2.2.2 (S.2.2.1 1 l) h := by
  unfold p_dst
  unfold p_hour at e1
  unfold p_by at e2
  rcases hq : p_fr S l S.2.1 with ⟨u, w⟩
  rw [hq] at e1 e2
  cases e1
  cases e2
  rfl
theorem p_dst_no {S : SH} {l : Nat} (e2 : p_by S l = none) : p_dst S l = none := by
  unfold p_dst
  unfold p_by at e2
  rcases hq : p_fr S l S.2.1 with ⟨u, w⟩
  rw [hq] at e2
  cases e2
  cases u <;> rfl
theorem p_amt_no {S : SH} {l : Nat} (e2 : p_by S l = none) : p_amt S l = 0 := by
  unfold p_amt
  rw [e2]
theorem p_to_lt {cg : Nat → Nat → Bool} {f t g : Nat} (hf : f < 4) (h : p_to cg f t = some g) : g < 4 := by
  unfold p_to at h
  split at h
  · cases h; exact hf
  · split at h
    · cases h; exact Nat.mod_lt _ (by omega)
    · cases h
/-- a line of which nothing falls -/
theorem relF_none {S : SH} {l : Nat} {D D' : m_D} (hF : relF S l D) (h16 : D 16 l = oI (p_hour S l)) (h17 : D 17 l = oI (p_by S l)) (hby : p_by S l = none) (e16 : D' 16 = D 16) (e17 : D' 17 = D 17) (e18 : D' 18 = upd (D 18) l 0) (e19 : D' 19 = D 19) (e20 : D' 20 = D 20) (e5 : D' 15 5 = p_hang S (l + 1)) (e6 : D' 15 6 = p_mud S (l + 1)) (e7 : D' 15 7 = D 15 7) : relF S (l + 1) D' := by
  obtain ⟨f1, f2, f3, f4, f5, f6⟩ := hF
  have ha := p_amt_no hby
  have hd := p_dst_no hby
  refine ⟨fun i hi => ?_, fun f t hf ht => ?_, fun f hf => ?_, e5, e6, ?_⟩
  · rw [e16, e17, e18]
    by_cases e : i = l
    · subst e
      rw [pk_us, ha]
      exact ⟨h16, h17, rfl⟩
    · rw [pk_un e]
      exact f1 i (by omega)
  · rw [e19, f2 f t hf ht]
    show _ = nI (p_came S f t l + _)
    rw [hd, if_neg (fun z => by cases z.1)]
    rfl
  · rw [e20, f3 f hf]
    show _ = nI (p_wet S f l + _)
    rw [hd, if_neg (fun z => by cases z)]
    rfl
  · rw [e7, f6]
    show _ = nI (p_lost S l + _)
    rw [hd, ha]
    rfl
/-- a line that is lost -/
theorem relF_lost {S : SH} {l h c : Nat} {D D' : m_D} (hF : relF S l D) (h16 : D 16 l = oI (p_hour S l)) (h17 : D 17 l = oI (p_by S l)) (hh : p_hour S l = some h) (hby : p_by S l = some c) (hd : p_dst S l = none) (e16 : D' 16 = D 16) (e17 : D' 17 = D 17) (e18 : D' 18 = upd (upd (D 18) l 0) l (nI (p_amt S l))) (e19 : D' 19 = D 19) (e20 : D' 20 = D 20) (e5 : D' 15 5 = D 15 5) (e6 : D' 15 6 = D 15 6) (e7 : D' 15 7 = D 15 7 + nI (p_amt S l)) : relF S (l + 1) D' := by
  obtain ⟨f1, f2, f3, f4, f5, f6⟩ := hF
  refine ⟨fun i hi => ?_, fun f t hf ht => ?_, fun f hf => ?_, ?_, ?_, ?_⟩
  · rw [e16, e17, e18]
    by_cases e : i = l
    · subst e
      rw [pk_us]
      exact ⟨h16, h17, rfl⟩
    · rw [pk_un e, pk_un e]
      exact f1 i (by omega)
  · rw [e19, f2 f t hf ht]
    show _ = nI (p_came S f t l + _)
    rw [hd, if_neg (fun z => by cases z.1)]
    rfl
  · rw [e20, f3 f hf]
    show _ = nI (p_wet S f l + _)
    rw [hd, if_neg (fun z => by cases z)]
    rfl
  · rw [e5, f4]
    show _ = if p_hour S l = none then _ else _
    rw [if_neg (by rw [hh]; exact fun z => by cases z)]
  · rw [e6, f5]
    show _ = if ¬ p_hour S l = none ∧ p_by S l = none then _ else _
    rw [if_neg (by rw [hby]; exact fun z => by cases z.2)]
  · rw [e7, f6, nI_add]
    show _ = nI (p_lost S l + _)
    rw [if_pos hd]
/-- a line that comes to a field -/
theorem relF_some {S : SH} {l h c g : Nat} {D D' : m_D} (hF : relF S l D) (h16 : D 16 l = oI (p_hour S l)) (h17 : D 17 l = oI (p_by S l)) (hh : p_hour S l = some h) (hby : p_by S l = some c) (hd : p_dst S l = some g) (hg : g < 4) (hh6 : h < 6) (e16 : D' 16 = D 16) (e17 : D' 17 = D 17) (e18 : D' 18 = upd (upd (D 18) l 0) l (nI (p_amt S l))) (e19 : D' 19 = upd (D 19) (g * 6 + h) (D 19 (g * 6 + h) + nI (p_amt S l))) (e20 : D' 20 = upd (D 20) g (D 20 g + nI (p_amt S l))) (e5 : D' 15 5 = D 15 5) (e6 : D' 15 6 = D 15 6) (e7 : D' 15 7 = D 15 7) : relF S (l + 1) D' := by
  obtain ⟨f1, f2, f3, f4, f5, f6⟩ := hF
  refine ⟨fun i hi => ?_, fun f t hf ht => ?_, fun f hf => ?_, ?_, ?_, ?_⟩
  · rw [e16, e17, e18]
    by_cases e : i = l
    · subst e
      rw [pk_us]
      exact ⟨h16, h17, rfl⟩
    · rw [pk_un e, pk_un e]
      exact f1 i (by omega)
  · rw [e19]
    show _ = nI (p_came S f t l + _)
    rw [hd, hh]
    by_cases e : f = g ∧ t = h
    · obtain ⟨rfl, rfl⟩ := e
      rw [pk_us, f2 f t hf ht, nI_add, if_pos ⟨rfl, rfl⟩]
    · rw [pk_un (by omega), f2 f t hf ht, if_neg (fun z => e ⟨by cases z.1; rfl, by cases z.2; rfl⟩)]
      rfl
  · rw [e20]
    show _ = nI (p_wet S f l + _)
    rw [hd]
    by_cases e : f = g
    · subst e
      rw [pk_us, f3 f hf, nI_add, if_pos rfl]
    · rw [pk_un e, f3 f hf, if_neg (fun z => e (by cases z; rfl))]
      rfl
  · rw [e5, f4]
    show _ = if p_hour S l = none then _ else _
    rw [if_neg (by rw [hh]; exact fun z => by cases z)]
  · rw [e6, f5]
    show _ = if ¬ p_hour S l = none ∧ p_by S l = none then _ else _
    rw [if_neg (by rw [hby]; exact fun z => by cases z.2)]
  · rw [e7, f6]
    show _ = nI (p_lost S l + _)
    rw [hd, if_neg (fun z => by cases z)]
    rfl
theorem c_bringDown {L d B l : Nat} {S : SH} {D : m_D} {Q : m_K} (hB : B = 1 ∨ B = 8) (hr : relC B D S) (ho : okS S) (hl : l < S.1) (hF : relF S l D) (h16 : D 16 l = oI (p_hour S l)) (h17 : D 17 l = oI (p_by S l)) (h : ∀ D', m_fr [15, 18, 19, 20] D D' → relF S (l + 1) D' → Q none D') : m_call L (d + 3) 2 [.ref 15, .ref B, .int (nI l)] D Q := by
  have hB0 := hB
  have hl6 : l < 6 := Nat.lt_of_lt_of_le hl ho.1
  have hcl : (nI l).toNatClampNeg = l := nI_clamp (by omega)
  have hin : vp_in (nI l) 6 := vp_in_nI (by omega) (by omega)
  obtain ⟨q1, q2⟩ := p_fr_ok S l S.2.1
  obtain ⟨ol1, ol2⟩ := ho.2.2.1 l hl
  obtain ⟨rl1, rl2⟩ := hr.2.2.1 l hl
  rcases hB with rfl | rfl
  all_goals
    refine v_in (tb' := t_X0_bringDown) (rk' := 0) rfl rfl rfl ?_
    refine v_go rfl ?_
    refine v_sd rfl hin ?_
    rw [hcl, h16]
    refine v_go rfl ?_
    refine v_sd rfl hin ?_
    rw [hcl]
    refine v_go rfl ?_
    cases hh : p_hour S l with
    | none =>
      have hby : p_by S l = none := by
        cases hw : p_by S l with
        | none => rfl
        | some w => exact absurd hh (q2 w hw).2
      refine v_bF rfl (fun z => z rfl) ?_
      refine v_go rfl ?_
      refine v_rt rfl trivial (h _ (((m_fr.refl _ _).up (by simp)).up (by simp)) ?_)
      refine relF_none hF h16 h17 hby rfl rfl rfl rfl rfl ?_ ?_ rfl
      · show D 15 5 ||| _ = if p_hour S l = none then _ else _
        rw [if_pos hh, hF.2.2.2.1]
      · show D 15 6 = if ¬ p_hour S l = none ∧ p_by S l = none then _ else _
        rw [if_neg (fun z => z.1 hh)]
        exact hF.2.2.2.2.1
    | some t =>
      have ht : t < 6 := by have := q1 t hh; omega
      refine v_bT rfl (oI_ne9 (by omega)) ?_
      refine v_go rfl ?_
      refine v_sd rfl hin ?_
      rw [hcl]
      refine v_go rfl ?_
      have h17' : m_up D 18 l 0 17 l = oI (p_by S l) := h17
      rw [h17']
      cases hby : p_by S l with
      | none =>
        refine v_bF rfl (fun z => z rfl) ?_
        refine v_go rfl ?_
        refine v_rt rfl trivial (h _ (((m_fr.refl _ _).up (by simp)).up (by simp)) ?_)
        refine relF_none hF h16 h17 hby rfl rfl rfl rfl rfl ?_ ?_ rfl
        · show D 15 5 = if p_hour S l = none then _ else _
          rw [if_neg (by rw [hh]; exact fun z => by cases z)]
          exact hF.2.2.2.1
        · show D 15 6 ||| _ = if ¬ p_hour S l = none ∧ p_by S l = none then _ else _
          rw [if_pos ⟨by rw [hh]; exact fun z => (by cases z), hby⟩, hF.2.2.2.2.1]
      | some c =>
        have hc : c < S.2.1 := (q2 c hby).1
        have hc3 : S.2.1 ≤ 3 := ho.2.1
        refine v_bT rfl (oI_ne9 (by omega)) ?_
        refine v_go rfl ?_
        refine v_sd rfl hin ?_
        rw [hcl, h17', hby]
        refine v_go rfl ?_
        refine v_sd rfl hin ?_
        rw [hcl]
        refine v_go rfl ?_
        refine v_ca rfl ?_
        have r1 := rl1
        have r2 := rl2
        refine Eq.mp (congrArg (fun z => m_call L (d + 2) 14 [_, _, .int z] _ _) r1.symm) ?_
        refine c_given hB0 hr ho hc ol1 ?_
        have ham : p_amt S l = p_give (S.2.2.1 2 c) (S.2.2.1 0 l) := by unfold p_amt; rw [hby]
        rw [← ham]
        refine v_go rfl ?_
        refine v_sd rfl hin ?_
        rw [hcl]
        refine v_go rfl ?_
        refine v_sd rfl hin ?_
        rw [hcl]
        refine v_go rfl ?_
        refine v_ca rfl ?_
        refine Eq.mp (congrArg (fun z => m_call L (d + 2) 18 [_, .int z, _] _ _) r2.symm) ?_
        refine c_goesTo hB0 hr ol2 ht ?_
        have hds := p_dst_to hh hby
        rw [← hds]
        refine v_go rfl ?_
        cases hd : p_dst S l with
        | none =>
          refine v_bF rfl (fun z => z rfl) ?_
          refine v_go rfl ?_
          refine v_sd rfl hin ?_
          rw [hcl]
          refine v_go rfl ?_
          refine v_rt rfl trivial (h _ ((((m_fr.refl _ _).up (by simp)).up (by simp)).up (by simp)) ?_)
          refine relF_lost hF h16 h17 hh hby hd rfl rfl rfl rfl rfl rfl rfl ?_
          show D 15 7 + m_up (m_up D 18 l 0) 18 l (nI (p_amt S l)) 18 l = _
          rw [m_up_s]
        | some g =>
          have hg : g < 4 := p_to_lt ol2 (hds ▸ hd)
          have ei : nI g * 6 + nI t = nI (g * 6 + t) := by rw [show (6 : Int32) = nI 6 from rfl, pk_mul, nI_add]
          have hci : (nI (g * 6 + t)).toNatClampNeg = g * 6 + t := nI_clamp (by omega)
          have hini : vp_in (nI (g * 6 + t)) 24 := vp_in_nI (by omega) (by omega)
          have hcg : (nI g).toNatClampNeg = g := nI_clamp (by omega)
          have hing : vp_in (nI g) 4 := vp_in_nI (by omega) (by omega)
          refine v_bT rfl (oI_ne9 (by omega)) ?_
          rw [oI_some]
          refine v_go rfl ?_
          rw [oI_some, ei]
          refine v_sd rfl hini ?_
          rw [hci]
          refine v_go rfl ?_
          refine v_sd rfl hin ?_
          rw [hcl]
          refine v_go rfl ?_
          refine v_sd rfl hini ?_
          rw [hci]
          refine v_go rfl ?_
          refine v_sd rfl hing ?_
          rw [hcg]
          refine v_go rfl ?_
          refine v_sd rfl hin ?_
          rw [hcl]
          refine v_go rfl ?_
          refine v_sd rfl hing ?_
          rw [hcg]
          refine v_rt rfl trivial (h _ (((((m_fr.refl _ _).up (by simp)).up (by simp)).up (by simp)).up (by simp)) ?_)
          refine relF_some hF h16 h17 hh hby hd hg ht rfl rfl rfl ?_ ?_ rfl rfl rfl
          · show upd (D 19) (g * 6 + t) (D 19 (g * 6 + t) + m_up (m_up D 18 l 0) 18 l (nI (p_amt S l)) 18 l) = _
            rw [m_up_s]
          · show upd (D 20) g (D 20 g + m_up (m_up D 18 l 0) 18 l (nI (p_amt S l)) 18 l) = _
            rw [m_up_s]
end
section
/-- the lines that fall by a crier, as a set -/
def p_lby (S : SH) (c : Nat) : Nat → Int32
  | 0 => 0
  | l + 1 => p_lby S c l ||| (if p_by S l = some c then 1 <<< (nI l &&& 31) else 0)
theorem relC_keep {B : Nat} {Z : List Nat} {D D' : m_D} {S : SH} (hf : m_fr Z D D') (hZ : ∀ i, i < 7 → B + i ∉ Z) (h : relC B D S) : relC B D' S := by
  have e : ∀ i, i < 7 → D' (B + i) = D (B + i) := fun i hi => hf _ (hZ i hi)
  obtain ⟨h1, h2, h3, h4, h5⟩ := h
  have e0 : D' B = D B := e 0 (by omega)
  refine ⟨by rw [e0]; exact h1, by rw [e0]; exact h2, fun l hl => ?_, fun c hc => ?_, fun t ht => ?_⟩
  · rw [e 1 (by omega), e 2 (by omega)]
    exact h3 l hl
  · rw [e 3 (by omega), e 4 (by omega), e 5 (by omega)]
    exact h4 c hc
  · rw [e 6 (by omega)]
    exact h5 t ht
abbrev z_F : List Nat := [15, 16, 17, 18, 19, 20]
theorem z_F_B {B : Nat} (hB : B = 1 ∨ B = 8) : ∀ i, i < 7 → B + i ∉ z_F := by
  intro i hi
  simp only [z_F, List.mem_cons, List.not_mem_nil, or_false]
  omega
theorem c_workOut {L d B : Nat} {S : SH} {D : m_D} {Q : m_K} (hB : B = 1 ∨ B = 8) (hr : relC B D S) (ho : okS S) (h : ∀ D', m_fr z_F D D' → relF S S.1 D' → Q none D') : m_call L (d + 4) 0 [.ref 15, .ref B] D Q := by
  have hB0 := hB
  have key : ∀ (m l : Nat) (D1 : m_D), l + m = S.1 → m_fr z_F D D1 → relF S l D1 → m_V L (d + 3) Q t_X0_workOut 0 (33, [some (.ref 15), some (.ref B), some (.int (nI l))], [], D1) := by
    intro m
    induction m with
    | zero =>
      intro l D1 hm hf hF
      have hm : l = S.1 := by omega
      subst hm
      have hr1 := relC_keep hf (z_F_B hB) hr
      have hn : D1 B 0 = nI S.1 := hr1.1
      rcases hB with rfl | rfl
      all_goals
        refine v_go rfl ?_
        rw [hn]
        refine v_bT rfl (Int32.le_refl _) ?_
        exact v_rt rfl trivial (h D1 hf hF)
    | succ m ih =>
      intro l D1 hm hf hF
      have hr1 := relC_keep hf (z_F_B hB) hr
      have hn : D1 B 0 = nI S.1 := hr1.1
      have hn6 := ho.1
      rcases hB with rfl | rfl
      all_goals
        refine v_go rfl ?_
        rw [hn]
        refine v_bF rfl (nI_ge (by omega) (by omega)) ?_
        refine v_go rfl ?_
        refine v_ca rfl ?_
        refine c_findReader hB0 hr1 ho (by omega) ?_
        refine v_go rfl ?_
        refine v_ca rfl ?_
        have hf2 := (hf.up (i := 16) (j := l) (v := oI (p_hour S l)) (by simp)).up (i := 17) (j := l) (v := oI (p_by S l)) (by simp)
        refine c_bringDown hB0 hr1 ho (by omega) ?_ ?_ ?_ (fun D2 hg hF2 => ?_)
        · obtain ⟨f1, f2, f3, f4, f5, f6⟩ := hF
          refine ⟨fun i hi => ?_, f2, f3, f4, f5, f6⟩
          show upd (D1 16) l _ i = _ ∧ upd (D1 17) l _ i = _ ∧ D1 18 i = _
          rw [pk_un (by omega), pk_un (by omega)]
          exact f1 i hi
        · exact pk_us
        · exact pk_us
        · have hk := ih (l + 1) D2 (by omega) (hf2.trans (hg.sub (by simp))) hF2
          rw [← nI_1] at hk
          exact v_run 2 rfl hk
  rcases hB with rfl | rfl
  all_goals
    refine v_in (tb' := t_X0_workOut) (rk' := 0) rfl rfl rfl ?_
    refine v_go rfl ?_
    refine v_ca rfl ?_
    refine c_fill (n := 24) (by simp) (fun D1 hf1 h19 => ?_)
    refine v_go rfl ?_
    refine v_ca rfl ?_
    refine c_fill (n := 4) (by simp) (fun D2 hf2 h20 => ?_)
    have hfa : m_fr z_F D (m_up (m_up (m_up D 15 5 0) 15 6 0) 15 7 0) := (((m_fr.refl _ _).up (by simp)).up (by simp)).up (by simp)
    have hk := key S.1 0 D2 (by omega) ((hfa.trans (hf1.sub (by simp))).trans (hf2.sub (by simp))) ?_
    · exact v_run 2 rfl hk
    · have e15 : D2 15 = m_up (m_up (m_up D 15 5 0) 15 6 0) 15 7 0 15 := (hf2 15 (by simp)).trans (hf1 15 (by simp))
      have e19 : D2 19 = D1 19 := hf2 19 (by simp)
      refine ⟨fun i hi => absurd hi (by omega), fun f t hf ht => ?_, fun f hf => h20 f hf, ?_, ?_, ?_⟩
      · rw [e19]
        exact h19 _ (by omega)
      · rw [e15]
        rfl
      · rw [e15]
        rfl
      · rw [e15]
        rfl
theorem c_linesBy {L d c n : Nat} {S : SH} {D : m_D} {Q : m_K} (hn : n ≤ 6) (hF : ∀ i, i < n → D 17 i = oI (p_by S i)) (hc : c < 3) (hk : S.2.1 ≤ 3) (h : Q (some (.int (p_lby S c n))) D) : m_call L (d + 1) 3 [.ref 15, .int (nI c), .int (nI n)] D Q := by
  have key : ∀ (m l : Nat), l + m = n → m_V L d Q t_X0_linesBy 1 (5, [some (.ref 15), some (.int (nI c)), some (.int (nI n)), some (.int (p_lby S c l)), some (.int (nI l))], [], D) := by
    intro m
    induction m with
    | zero =>
      intro l hm
      have hm : l = n := by omega
      subst hm
      refine v_go rfl ?_
      refine v_bT rfl (Int32.le_refl _) ?_
      refine v_go rfl ?_
      exact v_rt rfl trivial h
    | succ m ih =>
      intro l hm
      have hcl : (nI l).toNatClampNeg = l := nI_clamp (by omega)
      have hin : vp_in (nI l) 6 := vp_in_nI (by omega) (by omega)
      have hk := ih (l + 1) (by omega)
      rw [← nI_1] at hk
      have e : p_lby S c (l + 1) = p_lby S c l ||| (if p_by S l = some c then 1 <<< (nI l &&& 31) else 0) := rfl
      rw [e] at hk
      refine v_go rfl ?_
      refine v_bF rfl (nI_ge (by omega) (by omega)) ?_
      refine v_go rfl ?_
      refine v_sd rfl hin ?_
      rw [hcl, hF l (by omega)]
      refine v_go rfl ?_
      by_cases hb : p_by S l = some c
      · rw [if_pos hb] at hk
        refine v_bF rfl (by rw [hb]; exact fun z => z rfl) ?_
        exact v_run 8 rfl hk
      · rw [if_neg hb] at hk
        refine v_bT rfl ?_ ?_
        · cases hw : p_by S l with
          | none => exact fun z => nI_m9 (by omega) z.symm
          | some w =>
            intro z
            have hw3 := ((p_fr_ok S l S.2.1).2 w hw).1
            have := (nI_eq (by omega) (by omega)).mp z
            exact hb (by rw [hw, this])
        · exact v_run 5 rfl hk
  refine v_in (tb' := t_X0_linesBy) (rk' := 1) rfl rfl rfl ?_
  exact v_run 4 rfl (key n 0 (by omega))
theorem c_wetOfAll {L d : Nat} {D : m_D} {Q : m_K} (h : Q (some (.int (0 + D 20 0 + D 20 1 + D 20 2 + D 20 3))) D) : m_call L (d + 1) 4 [.ref 15] D Q := by
  refine v_in (tb' := t_X0_wetOfAll) (rk' := 1) rfl rfl rfl ?_
  refine v_go rfl ?_
  refine v_bF rfl (by decide) ?_
  refine v_go rfl ?_
  refine v_sd rfl (vp_in_nI (n := 0) (by omega) (by omega)) ?_
  refine v_go rfl ?_
  refine v_bF rfl (by decide) ?_
  refine v_go rfl ?_
  refine v_sd rfl (vp_in_nI (n := 1) (by omega) (by omega)) ?_
  refine v_go rfl ?_
  refine v_bF rfl (by decide) ?_
  refine v_go rfl ?_
  refine v_sd rfl (vp_in_nI (n := 2) (by omega) (by omega)) ?_
  refine v_go rfl ?_
  refine v_bF rfl (by decide) ?_
  refine v_go rfl ?_
  refine v_sd rfl (vp_in_nI (n := 3) (by omega) (by omega)) ?_
  refine v_go rfl ?_
  refine v_bT rfl (by decide) ?_
  refine v_go rfl ?_
  exact v_rt rfl trivial h
end
section
/-! ===== the reference: small questions ===== -/
theorem lg_lt {x y : Int64} : lg_cmp x y < 0 ↔ x < y := by
  unfold lg_cmp
  by_cases h1 : x > y
  · rw [if_pos h1]
    exact ⟨fun z => absurd z (by decide), fun z => absurd (Int64.lt_trans z h1) (Int64.lt_irrefl)⟩
  · rw [if_neg h1]
    by_cases h2 : x = y
    · rw [if_pos h2]
      exact ⟨fun z => absurd z (by decide), fun z => absurd z (by rw [h2]; exact Int64.lt_irrefl)⟩
    · rw [if_neg h2]
      exact ⟨fun _ => (Int64.lt_of_le_of_ne (Int64.not_lt.mp h1) h2), fun _ => by decide⟩
theorem lg_gt {x y : Int64} : 0 < lg_cmp x y ↔ y < x := by
  unfold lg_cmp
  by_cases h1 : x > y
  · rw [if_pos h1]
    exact ⟨fun _ => h1, fun _ => by decide⟩
  · rw [if_neg h1]
    by_cases h2 : x = y
    · rw [if_pos h2]
      exact ⟨fun z => absurd z (by decide), fun z => absurd z h1⟩
    · rw [if_neg h2]
      exact ⟨fun z => absurd z (by decide), fun z => absurd z h1⟩
theorem c_in {L d : Nat} {v l g : Int64} {D : m_D} {Q : m_K} (h1 : l ≤ v → v ≤ g → Q (some (.int 1)) D) (h0 : ¬ (l ≤ v ∧ v ≤ g) → Q (some (.int 0)) D) : m_call L (d + 1) 90 [.long v, .long l, .long g] D Q := by
  refine v_in (tb' := t_X5_in) (rk' := 2) rfl rfl rfl ?_
  refine v_go rfl ?_
  refine v_br rfl (fun z => ?_) (fun z => ?_)
  · refine v_go rfl ?_
    exact v_rt rfl (Or.inl rfl) (h0 (fun y => absurd (lg_lt.mp z) (Int64.not_lt.mpr y.1)))
  · refine v_go rfl ?_
    have z : l ≤ v := Int64.not_lt.mp (fun y => z (lg_lt.mpr y))
    refine v_br rfl (fun z2 => ?_) (fun z2 => ?_)
    · refine v_go rfl ?_
      exact v_rt rfl (Or.inl rfl) (h0 (fun y => absurd (lg_gt.mp z2) (Int64.not_lt.mpr y.2)))
    · refine v_go rfl ?_
      exact v_rt rfl (Or.inr rfl) (h1 z (Int64.not_lt.mp (fun y => z2 (lg_gt.mpr y))))
/-- a number within 0 .. n - 1, by longs -/
theorem in_iff {x : Int32} {g : Int64} {n : Nat} (hg : g.toInt = (n : Int) - 1) : (0 ≤ x.toInt64 ∧ x.toInt64 ≤ g) ↔ vp_in x n := by
  rw [vp_in_iff, Int64.le_iff_toInt_le, Int64.le_iff_toInt_le, Int32.toInt_toInt64, hg]
  have : (0 : Int64).toInt = 0 := by decide
  rw [this]
  omega
theorem in_n1 {n : Nat} (h : n < 1000) : ((nI n).toInt64 - 1).toInt = (n : Int) - 1 := by
  rw [nI_l (by omega), Int64.toInt_sub, lN_toInt (by omega)]
  have : (1 : Int64).toInt = 1 := by decide
  rw [this]
  apply Int.bmod_eq_of_le <;> omega
theorem c_noLine {L d n : Nat} {x : Int32} {D : m_D} {Q : m_K} (hn : D 34 1 = nI n) (h6 : n ≤ 6) (h0 : vp_in x n → Q (some (.int 0)) D) (h1 : ¬ vp_in x n → Q (some (.int 1)) D) : m_call L (d + 2) 97 [.ref 34, .int x] D Q := by
  refine v_in (tb' := t_X5_noLine) (rk' := 2) rfl rfl rfl ?_
  refine v_go rfl ?_
  rw [hn]
  refine v_ca rfl ?_
  refine c_in (fun a b => ?_) (fun a => ?_)
  · refine v_go rfl ?_
    refine v_bT rfl (by decide) ?_
    refine v_go rfl ?_
    exact v_rt rfl (Or.inl rfl) (h0 ((in_iff (in_n1 (by omega))).mp ⟨a, b⟩))
  · refine v_go rfl ?_
    refine v_bF rfl (by decide) ?_
    refine v_go rfl ?_
    exact v_rt rfl (Or.inr rfl) (h1 (fun z => a ((in_iff (in_n1 (by omega))).mpr z)))
theorem c_noCrier {L d n : Nat} {x : Int32} {D : m_D} {Q : m_K} (hn : D 34 2 = nI n) (h6 : n ≤ 6) (h0 : vp_in x n → Q (some (.int 0)) D) (h1 : ¬ vp_in x n → Q (some (.int 1)) D) : m_call L (d + 2) 98 [.ref 34, .int x] D Q := by
  refine v_in (tb' := t_X5_noCrier) (rk' := 2) rfl rfl rfl ?_
  refine v_go rfl ?_
  rw [hn]
  refine v_ca rfl ?_
  refine c_in (fun a b => ?_) (fun a => ?_)
  · refine v_go rfl ?_
    refine v_bT rfl (by decide) ?_
    refine v_go rfl ?_
    exact v_rt rfl (Or.inl rfl) (h0 ((in_iff (in_n1 (by omega))).mp ⟨a, b⟩))
  · refine v_go rfl ?_
    refine v_bF rfl (by decide) ?_
    refine v_go rfl ?_
    exact v_rt rfl (Or.inr rfl) (h1 (fun z => a ((in_iff (in_n1 (by omega))).mpr z)))
theorem c_noField {L d : Nat} {x : Int32} {D : m_D} {Q : m_K} (h0 : vp_in x 4 → Q (some (.int 0)) D) (h1 : ¬ vp_in x 4 → Q (some (.int 1)) D) : m_call L (d + 2) 99 [.int x] D Q := by
  have hg : (3 : Int64).toInt = ((4 : Nat) : Int) - 1 := by decide
  refine v_in (tb' := t_X5_noField) (rk' := 2) rfl rfl rfl ?_
  refine v_go rfl ?_
  refine v_ca rfl ?_
  refine c_in (fun a b => ?_) (fun a => ?_)
  · refine v_go rfl ?_
    refine v_bT rfl (by decide) ?_
    refine v_go rfl ?_
    exact v_rt rfl (Or.inl rfl) (h0 ((in_iff hg).mp ⟨a, b⟩))
  · refine v_go rfl ?_
    refine v_bF rfl (by decide) ?_
    refine v_go rfl ?_
    exact v_rt rfl (Or.inr rfl) (h1 (fun z => a ((in_iff hg).mpr z)))
theorem c_isHourM {L d : Nat} {x : Int32} {D : m_D} {Q : m_K} (h1 : vp_in x 6 → Q (some (.int 1)) D) (h0 : ¬ vp_in x 6 → Q (some (.int 0)) D) : m_call L (d + 2) 100 [.int x] D Q := by
  have hg : (5 : Int64).toInt = ((6 : Nat) : Int) - 1 := by decide
  refine v_in (tb' := t_X5_isHour) (rk' := 2) rfl rfl rfl ?_
  refine v_go rfl ?_
  refine v_ca rfl ?_
  refine c_in (fun a b => ?_) (fun a => ?_)
  · exact v_rt rfl (Or.inr rfl) (h1 ((in_iff hg).mp ⟨a, b⟩))
  · exact v_rt rfl (Or.inl rfl) (h0 (fun z => a ((in_iff hg).mpr z)))
theorem c_hourBy {L d c l : Nat} {S : SH} {D : m_D} {Q : m_K} (hr : relM D S) (ho : okS S) (hc : c < S.2.1) (hl : l < 6) (h : Q (some (.int (oI (p_hb l (S.2.2.1 4 c) (S.2.2.1 3 c))))) D) : m_call L (d + 1) 108 [.ref 34, .int (nI c), .int (nI l)] D Q := by
  obtain ⟨-, -, -, r4, -⟩ := hr
  obtain ⟨-, r5, r6⟩ := r4 c hc
  obtain ⟨o1, o2, -, o4⟩ := ho
  obtain ⟨-, o5, o6, o7⟩ := o4 c hc
  have hcl : (nI c).toNatClampNeg = c := nI_clamp (by omega)
  have hin : vp_in (nI c) 3 := vp_in_nI (by omega) (by omega)
  refine v_in (tb' := t_X5_hourBy) (rk' := 1) rfl rfl rfl ?_
  refine v_go rfl ?_
  refine v_sd rfl hin ?_
  rw [hcl, r6]
  unfold p_hb at h
  by_cases hlt : l < S.2.2.1 4 c
  · rw [if_pos hlt] at h
    refine v_bF rfl (nI_ge hlt (by omega)) ?_
    refine v_go rfl ?_
    exact v_rt rfl trivial h
  · rw [if_neg hlt] at h
    refine v_bT rfl (nI_le (by omega) (by omega)) ?_
    refine v_go rfl ?_
    refine v_sd rfl hin ?_
    rw [hcl, r6]
    refine v_go rfl ?_
    refine v_sd rfl hin ?_
    rw [hcl, r5]
    refine v_sd rfl (nI_ne0 (by omega) (by omega)) ?_
    refine v_rt rfl trivial ?_
    rw [pk_sub (by omega), pk_div (by omega) (by omega) (by omega)]
    exact h
theorem c_givenM {L d c dr : Nat} {S : SH} {D : m_D} {Q : m_K} (hr : relM D S) (ho : okS S) (hc : c < S.2.1) (hd : dr ≤ 9) (h : Q (some (.int (nI (p_give (S.2.2.1 2 c) dr)))) D) : m_call L (d + 1) 110 [.ref 34, .int (nI c), .int (nI dr)] D Q := by
  obtain ⟨-, -, -, r4, -⟩ := hr
  obtain ⟨r5, -, -⟩ := r4 c hc
  obtain ⟨o1, o2, -, o4⟩ := ho
  obtain ⟨o5, -⟩ := o4 c hc
  have hcl : (nI c).toNatClampNeg = c := nI_clamp (by omega)
  have hin : vp_in (nI c) 3 := vp_in_nI (by omega) (by omega)
  generalize S.2.2.1 2 c = kd at *
  have key : m_V L d Q t_X5_given 1 (11, [some (.ref 34), some (.int (nI c)), some (.int (nI dr)), none], [.int (nI (dr - 1))], D) := by
    refine v_go rfl ?_
    refine v_sd rfl hin ?_
    rw [hcl, r5]
    match kd, o5, h, r5 with
    | 0, _, h, _ =>
      refine v_bF rfl (fun z => z rfl) ?_
      refine v_go rfl ?_
      exact v_rt rfl trivial h
    | 1, _, h, r5 =>
      refine v_bT rfl (by decide) ?_
      refine v_go rfl ?_
      refine v_sd rfl hin ?_
      rw [hcl, r5]
      refine v_go rfl ?_
      refine v_bF rfl (fun z => z rfl) ?_
      refine v_go rfl ?_
      exact v_rt rfl trivial h
    | 2, _, h, r5 =>
      refine v_bT rfl (by decide) ?_
      refine v_go rfl ?_
      refine v_sd rfl hin ?_
      rw [hcl, r5]
      refine v_go rfl ?_
      refine v_bT rfl (by decide) ?_
      refine v_go rfl ?_
      refine v_rt rfl trivial ?_
      rw [nI_add]
      exact h
  refine v_in (tb' := t_X5_given) (rk' := 1) rfl rfl rfl ?_
  refine v_go rfl ?_
  cases dr with
  | zero =>
    refine v_bT rfl (by decide) ?_
    exact v_run 1 rfl key
  | succ dr =>
    refine v_bF rfl (nI_nle (by omega) (by omega)) ?_
    have key := key
    rw [Nat.add_sub_cancel, ← nI_pred dr] at key
    exact v_run 4 rfl key
theorem c_coughsM {L d f t : Nat} {S : SH} {D : m_D} {Q : m_K} (hr : relM D S) (hf : f < 4) (ht : t < 6) (h1 : S.2.2.2 f t = true → Q (some (.int 1)) D) (h0 : S.2.2.2 f t = false → Q (some (.int 0)) D) : m_call L (d + 1) 111 [.ref 34, .int (nI f), .int (nI t)] D Q := by
  obtain ⟨-, -, -, -, r5⟩ := hr
  have r6 := r5 f hf
  have hcl : (nI f).toNatClampNeg = f := nI_clamp (by omega)
  have hin : vp_in (nI f) 4 := vp_in_nI (by omega) (by omega)
  have hb := b_bit6 (fun t => S.2.2.2 f t) ht
  refine v_in (tb' := t_X5_coughs) (rk' := 2) rfl rfl rfl ?_
  refine v_go rfl ?_
  refine v_sd rfl hin ?_
  rw [hcl, r6]
  refine v_go rfl ?_
  rw [hb]
  cases hg : S.2.2.2 f t with
  | true =>
    refine v_bF rfl (by decide) ?_
    refine v_go rfl ?_
    exact v_rt rfl (Or.inr rfl) (h1 hg)
  | false =>
    refine v_bT rfl (by decide) ?_
    refine v_go rfl ?_
    exact v_rt rfl (Or.inl rfl) (h0 hg)
end
section
/-! ===== the reference's rain ===== -/
def m_fM (Z F : List Nat) (D D' : m_D) : Prop := (∀ a, a ∉ Z → a ≠ 34 → D' a = D a) ∧ ∀ j, j ∉ F → D' 34 j = D 34 j
theorem m_fM.refl (Z F : List Nat) (D : m_D) : m_fM Z F D D := ⟨fun _ _ _ => rfl, fun _ _ => rfl⟩
theorem m_fM.trans {Z F : List Nat} {D D1 D2 : m_D} (h : m_fM Z F D D1) (g : m_fM Z F D1 D2) : m_fM Z F D D2 := ⟨fun a ha hb => (g.1 a ha hb).trans (h.1 a ha hb), fun j hj => (g.2 j hj).trans (h.2 j hj)⟩
theorem m_fM.up {Z F : List Nat} {D D1 : m_D} {i j : Nat} {v : Int32} (h : m_fM Z F D D1) (hi : i ∈ Z) (h34 : i ≠ 34) : m_fM Z F D (m_up D1 i j v) := ⟨fun a ha hb => (m_up_ne (D := D1) (i := i) (a := a) (fun z => ha (by rw [z]; exact hi))).trans (h.1 a ha hb), fun b hb => by
  rw [m_up_ne (fun z => h34 z.symm)]
  exact h.2 b hb⟩
theorem m_fM.upF {Z F : List Nat} {D D1 : m_D} {j : Nat} {v : Int32} (h : m_fM Z F D D1) (hj : j ∈ F) : m_fM Z F D (m_up D1 34 j v) := ⟨fun a ha hb => (m_up_ne (D := D1) (i := 34) (a := a) hb).trans (h.1 a ha hb), fun b hb => by
  rw [m_up_n (fun z => hb (by rw [z]; exact hj))]
  exact h.2 b hb⟩
theorem m_fM.sub {Z F Y G : List Nat} {D D1 : m_D} (h : m_fM Z F D D1) (hs : ∀ a, a ∈ Z → a ∈ Y) (hg : ∀ a, a ∈ F → a ∈ G) : m_fM Y G D D1 := ⟨fun a ha hb => h.1 a (fun z => ha (hs a z)) hb, fun j hj => h.2 j (fun z => hj (hg j z))⟩
theorem relM_keep {Z F : List Nat} {D D' : m_D} {S : SH} (hf : m_fM Z F D D') (hZ : ∀ a, a ∈ [35, 36, 37, 38, 39, 40] → a ∉ Z) (hF : 1 ∉ F ∧ 2 ∉ F) (h : relM D S) : relM D' S := by
  have e : ∀ a, a ∈ [35, 36, 37, 38, 39, 40] → D' a = D a := fun a ha => hf.1 a (hZ a ha) (by
    simp only [List.mem_cons, List.not_mem_nil, or_false] at ha
    omega)
  obtain ⟨h1, h2, h3, h4, h5⟩ := h
  refine ⟨by rw [hf.2 1 hF.1]; exact h1, by rw [hf.2 2 hF.2]; exact h2, fun l hl => ?_, fun c hc => ?_, fun t ht => ?_⟩
  · rw [e 35 (by simp), e 36 (by simp)]
    exact h3 l hl
  · rw [e 37 (by simp), e 38 (by simp), e 39 (by simp)]
    exact h4 c hc
  · rw [e 40 (by simp)]
    exact h5 t ht
theorem c_falls {L d f t a : Nat} {S : SH} {D : m_D} {Q : m_K} (hr : relM D S) (hf : f < 4) (ht : t < 6) (h0 : p_to S.2.2.2 f t = none → Q none (m_up D 34 22 (D 34 22 + nI a))) (h1 : ∀ g, p_to S.2.2.2 f t = some g → Q none (m_up (m_up D 49 (g * 6 + t) (D 49 (g * 6 + t) + nI a)) 50 g (D 50 g + nI a))) : m_call L (d + 2) 112 [.ref 34, .int (nI f), .int (nI t), .int (nI a)] D Q := by
  have e4 : nI f + 1 - (nI f + 1) / 4 * 4 = nI ((f + 1) % 4) := by
    rw [nI_1]
    exact pk_rem (d := 4) (by omega) (by omega) (by omega)
  have h4 : (f + 1) % 4 < 4 := Nat.mod_lt _ (by omega)
  have key : ∀ (g : Nat) (o : Option Value), g < 4 → p_to S.2.2.2 f t = some g → m_V L (d + 1) Q t_X5_falls 0 (37, [some (.ref 34), some (.int (nI f)), some (.int (nI t)), some (.int (nI a)), some (.int (nI ((f + 1) % 4))), o], [.int (nI g)], D) := by
    intro g o hg he
    have ei : 6 * nI g + nI t = nI (g * 6 + t) := by rw [show (6 : Int32) = nI 6 from rfl, pk_mul, nI_add, Nat.mul_comm]
    have hci : (nI (g * 6 + t)).toNatClampNeg = g * 6 + t := nI_clamp (by omega)
    have hini : vp_in (nI (g * 6 + t)) 24 := vp_in_nI (by omega) (by omega)
    have hcg : (nI g).toNatClampNeg = g := nI_clamp (by omega)
    have hing : vp_in (nI g) 4 := vp_in_nI (by omega) (by omega)
    refine v_go rfl ?_
    refine v_bT rfl (nI_pos' (by omega)) ?_
    refine v_go rfl ?_
    rw [ei]
    refine v_sd rfl hini ?_
    rw [hci]
    refine v_go rfl ?_
    refine v_sd rfl hini ?_
    rw [hci]
    refine v_go rfl ?_
    refine v_sd rfl hing ?_
    rw [hcg]
    refine v_go rfl ?_
    refine v_sd rfl hing ?_
    rw [hcg]
    exact v_rt rfl trivial (h1 g he)
  refine v_in (tb' := t_X5_falls) (rk' := 0) rfl rfl rfl ?_
  refine v_go rfl ?_
  refine v_sd rfl (by decide) ?_
  rw [e4]
  refine v_go rfl ?_
  refine v_ca rfl ?_
  refine c_coughsM hr hf ht (fun hg => ?_) (fun hg => ?_)
  · refine v_go rfl ?_
    refine v_bT rfl (by decide) ?_
    refine v_go rfl ?_
    refine v_ca rfl ?_
    refine c_coughsM hr h4 ht (fun hg2 => ?_) (fun hg2 => ?_)
    · refine v_go rfl ?_
      refine v_bT rfl (by decide) ?_
      refine v_go rfl ?_
      refine v_bF rfl (by decide) ?_
      refine v_go rfl ?_
      refine v_rt rfl trivial (h0 ?_)
      unfold p_to
      rw [if_neg (by rw [hg]; decide), if_neg (by rw [hg2]; decide)]
    · refine v_go rfl ?_
      refine v_bF rfl (by decide) ?_
      refine v_run 2 rfl (key _ none h4 ?_)
      unfold p_to
      rw [if_neg (by rw [hg]; decide), if_pos hg2]
  · refine v_go rfl ?_
    refine v_bF rfl (by decide) ?_
    refine v_run 2 rfl (key _ none hf ?_)
    unfold p_to
    rw [if_pos hg]
theorem c_reads {L d l : Nat} {S : SH} {D : m_D} {Q : m_K} (hr : relM D S) (ho : okS S) (hl : l < S.1) (h : ∀ D', m_fM [46, 47] [] D D' → (∀ i, i ≠ l → D' 46 i = D 46 i ∧ D' 47 i = D 47 i) → D' 46 l = oI (p_hour S l) → D' 47 l = oI (p_by S l) → Q none D') : m_call L (d + 2) 109 [.ref 34, .int (nI l)] D Q := by
  have hl6 : l < 6 := Nat.lt_of_lt_of_le hl ho.1
  have hk3 : S.2.1 ≤ 3 := ho.2.1
  have hcl : (nI l).toNatClampNeg = l := nI_clamp (by omega)
  have hin : vp_in (nI l) 6 := vp_in_nI (by omega) (by omega)
  have key : ∀ (m c : Nat) (o : Option Value) (D1 : m_D), c + m = S.2.1 → m_fM [46, 47] [] D D1 → (∀ i, i ≠ l → D1 46 i = D 46 i ∧ D1 47 i = D 47 i) → D1 46 l = oI (p_fr S l c).1 → D1 47 l = oI (p_fr S l c).2 → m_V L (d + 1) Q t_X5_reads 0 (18, [some (.ref 34), some (.int (nI l)), some (.int (nI c)), o], [], D1) := by
    intro m
    induction m with
    | zero =>
      intro c o D1 hc hf hi e1 e2
      have hc : c = S.2.1 := by omega
      subst hc
      have hr1 := relM_keep hf (by decide) (by decide) hr
      refine v_go rfl ?_
      rw [hr1.2.1]
      refine v_bT rfl (Int32.le_refl _) ?_
      exact v_rt rfl trivial (h D1 hf hi e1 e2)
    | succ m ih =>
      intro c o D1 hc hf hi e1 e2
      have hfr := p_fr_ok S l c
      have e : p_fr S l (c + 1) = p_nx (p_hb l (S.2.2.1 4 c) (S.2.2.1 3 c)) c (p_fr S l c) := rfl
      have hr1 := relM_keep hf (by decide) (by decide) hr
      have ih := fun o D2 => ih (c + 1) o D2 (by omega)
      rw [e, ← nI_1] at ih
      rcases hq : p_fr S l c with ⟨u, w⟩
      rw [hq] at ih hfr e1 e2
      dsimp only at e1 e2
      refine v_go rfl ?_
      rw [hr1.2.1]
      refine v_bF rfl (nI_ge (by omega) (by omega)) ?_
      refine v_go rfl ?_
      refine v_ca rfl ?_
      refine c_hourBy hr1 ho (by omega) hl6 ?_
      cases ht : p_hb l (S.2.2.1 4 c) (S.2.2.1 3 c) with
      | none =>
        rw [ht] at ih
        refine v_go rfl ?_
        refine v_bT rfl (by decide) ?_
        refine v_go rfl ?_
        refine v_bT rfl (by decide) ?_
        exact v_run 2 rfl (ih _ D1 hf hi e1 e2)
      | some t =>
        rw [ht] at ih
        have ht5 := p_hb_le ht
        refine v_go rfl ?_
        refine v_bF rfl (nI_pos (by omega)) ?_
        refine v_go rfl ?_
        refine v_sd rfl hin ?_
        rw [hcl, e1]
        have hup : ∀ (x y : Int32), m_fM [46, 47] [] D (m_up (m_up D1 46 l x) 47 l y) := fun x y => (hf.up (by simp) (by decide)).up (by simp) (by decide)
        have hui : ∀ (x y : Int32) (i : Nat), i ≠ l → m_up (m_up D1 46 l x) 47 l y 46 i = D 46 i ∧ m_up (m_up D1 46 l x) 47 l y 47 i = D 47 i := by
          intro x y i hil
          show upd (D1 46) l x i = _ ∧ upd (D1 47) l y i = _
          rw [pk_un hil, pk_un hil]
          exact hi i hil
        cases u with
        | none =>
          refine v_bT rfl (by decide) ?_
          refine v_go rfl ?_
          refine v_sd rfl hin ?_
          rw [hcl]
          refine v_go rfl ?_
          refine v_sd rfl hin ?_
          rw [hcl]
          exact v_run 3 rfl (ih _ _ (hup _ _) (hui _ _) pk_us pk_us)
        | some u =>
          have hu := hfr.1 u rfl
          refine v_bF rfl (nI_pos (by omega)) ?_
          refine v_go rfl ?_
          refine v_sd rfl hin ?_
          rw [hcl, e1]
          unfold p_nx at ih
          dsimp only at ih
          by_cases h1 : t < u
          · rw [if_pos h1] at ih
            refine v_bF rfl (nI_ge h1 (by omega)) ?_
            refine v_go rfl ?_
            refine v_sd rfl hin ?_
            rw [hcl]
            refine v_go rfl ?_
            refine v_sd rfl hin ?_
            rw [hcl]
            exact v_run 3 rfl (ih _ _ (hup _ _) (hui _ _) pk_us pk_us)
          · rw [if_neg h1] at ih
            refine v_bT rfl (nI_le (by omega) (by omega)) ?_
            refine v_go rfl ?_
            refine v_bF rfl (nI_pos (by omega)) ?_
            refine v_go rfl ?_
            refine v_sd rfl hin ?_
            rw [hcl, e1]
            by_cases h2 : t = u
            · rw [if_pos h2] at ih
              subst h2
              refine v_bF rfl (fun z => z rfl) ?_
              refine v_go rfl ?_
              refine v_sd rfl hin ?_
              rw [hcl]
              refine v_run 2 rfl (ih _ _ (hf.up (by simp) (by decide)) (fun i hil => ?_) e1 pk_us)
              show D1 46 i = _ ∧ upd (D1 47) l _ i = _
              rw [pk_un hil]
              exact hi i hil
            · rw [if_neg h2] at ih
              refine v_bT rfl (fun z => h2 ((nI_eq (by omega) (by omega)).mp z)) ?_
              exact v_run 2 rfl (ih _ D1 hf hi e1 e2)
  have hf0 : m_fM [46, 47] [] D (m_up (m_up D 46 l (-9)) 47 l (-9)) := ((m_fM.refl _ _ _).up (by simp) (by decide)).up (by simp) (by decide)
  have hk := key S.2.1 0 none _ (by omega) hf0 (fun i hil => by
    show upd (D 46) l _ i = _ ∧ upd (D 47) l _ i = _
    rw [pk_un hil, pk_un hil]
    exact ⟨rfl, rfl⟩) pk_us pk_us
  refine v_in (tb' := t_X5_reads) (rk' := 0) rfl rfl rfl ?_
  refine v_go rfl ?_
  refine v_sd rfl hin ?_
  rw [hcl]
  refine v_go rfl ?_
  refine v_sd rfl hin ?_
  rw [hcl]
  exact v_run 2 rfl hk
end
section
/-- what has fallen after so many lines, in the reference's rows -/
def relR (S : SH) (l : Nat) (D : m_D) : Prop := (∀ i, i < l → D 46 i = oI (p_hour S i) ∧ D 47 i = oI (p_by S i) ∧ D 48 i = nI (p_amt S i)) ∧ (∀ f t, f < 4 → t < 6 → D 49 (f * 6 + t) = nI (p_came S f t l)) ∧ (∀ f, f < 4 → D 50 f = nI (p_wet S f l)) ∧ D 34 22 = nI (p_lost S l)
theorem relR_rows {S : SH} {l : Nat} {D D' : m_D} (hF : ∀ i, i < l → D 46 i = oI (p_hour S i) ∧ D 47 i = oI (p_by S i) ∧ D 48 i = nI (p_amt S i)) (h46 : D 46 l = oI (p_hour S l)) (h47 : D 47 l = oI (p_by S l)) (e46 : D' 46 = D 46) (e47 : D' 47 = D 47) (e48 : D' 48 = upd (D 48) l (nI (p_amt S l))) : ∀ i, i < l + 1 → D' 46 i = oI (p_hour S i) ∧ D' 47 i = oI (p_by S i) ∧ D' 48 i = nI (p_amt S i) := by
  intro i hi
  rw [e46, e47, e48]
  by_cases e : i = l
  · subst e
    rw [pk_us]
    exact ⟨h46, h47, rfl⟩
  · rw [pk_un e]
    exact hF i (by omega)
theorem relR_none {S : SH} {l : Nat} {D D' : m_D} (hF : relR S l D) (h46 : D 46 l = oI (p_hour S l)) (h47 : D 47 l = oI (p_by S l)) (hby : p_by S l = none) (e46 : D' 46 = D 46) (e47 : D' 47 = D 47) (e48 : D' 48 = upd (D 48) l (nI (p_amt S l))) (e49 : D' 49 = D 49) (e50 : D' 50 = D 50) (e22 : D' 34 22 = D 34 22) : relR S (l + 1) D' := by
  obtain ⟨f1, f2, f3, f4⟩ := hF
  have ha := p_amt_no hby
  have hd := p_dst_no hby
  refine ⟨relR_rows f1 h46 h47 e46 e47 e48, fun f t hf ht => ?_, fun f hf => ?_, ?_⟩
  · rw [e49, f2 f t hf ht]
    show _ = nI (p_came S f t l + _)
    rw [hd, if_neg (fun z => by cases z.1)]
    rfl
  · rw [e50, f3 f hf]
    show _ = nI (p_wet S f l + _)
    rw [hd, if_neg (fun z => by cases z)]
    rfl
  · rw [e22, f4]
    show _ = nI (p_lost S l + _)
    rw [hd, ha]
    rfl
theorem relR_lost {S : SH} {l : Nat} {D D' : m_D} (hF : relR S l D) (h46 : D 46 l = oI (p_hour S l)) (h47 : D 47 l = oI (p_by S l)) (hd : p_dst S l = none) (e46 : D' 46 = D 46) (e47 : D' 47 = D 47) (e48 : D' 48 = upd (D 48) l (nI (p_amt S l))) (e49 : D' 49 = D 49) (e50 : D' 50 = D 50) (e22 : D' 34 22 = D 34 22 + nI (p_amt S l)) : relR S (l + 1) D' := by
  obtain ⟨f1, f2, f3, f4⟩ := hF
  refine ⟨relR_rows f1 h46 h47 e46 e47 e48, fun f t hf ht => ?_, fun f hf => ?_, ?_⟩
  · rw [e49, f2 f t hf ht]
    show _ = nI (p_came S f t l + _)
    rw [hd, if_neg (fun z => by cases z.1)]
    rfl
  · rw [e50, f3 f hf]
    show _ = nI (p_wet S f l + _)
    rw [hd, if_neg (fun z => by cases z)]
    rfl
  · rw [e22, f4, nI_add]
    show _ = nI (p_lost S l + _)
    rw [if_pos hd]
theorem relR_some {S : SH} {l h g : Nat} {D D' : m_D} (hF : relR S l D) (h46 : D 46 l = oI (p_hour S l)) (h47 : D 47 l = oI (p_by S l)) (hh : p_hour S l = some h) (hd : p_dst S l = some g) (hh6 : h < 6) (e46 : D' 46 = D 46) (e47 : D' 47 = D 47) (e48 : D' 48 = upd (D 48) l (nI (p_amt S l))) (e49 : D' 49 = upd (D 49) (g * 6 + h) (D 49 (g * 6 + h) + nI (p_amt S l))) (e50 : D' 50 = upd (D 50) g (D 50 g + nI (p_amt S l))) (e22 : D' 34 22 = D 34 22) : relR S (l + 1) D' := by
  obtain ⟨f1, f2, f3, f4⟩ := hF
  refine ⟨relR_rows f1 h46 h47 e46 e47 e48, fun f t hf ht => ?_, fun f hf => ?_, ?_⟩
  · rw [e49]
    show _ = nI (p_came S f t l + _)
    rw [hd, hh]
    by_cases e : f = g ∧ t = h
    · obtain ⟨rfl, rfl⟩ := e
      rw [pk_us, f2 f t hf ht, nI_add, if_pos ⟨rfl, rfl⟩]
    · rw [pk_un (by omega), f2 f t hf ht, if_neg (fun z => e ⟨by cases z.1; rfl, by cases z.2; rfl⟩)]
      rfl
  · rw [e50]
    show _ = nI (p_wet S f l + _)
    rw [hd]
    by_cases e : f = g
    · subst e
      rw [pk_us, f3 f hf, nI_add, if_pos rfl]
    · rw [pk_un e, f3 f hf, if_neg (fun z => e (by cases z; rfl))]
      rfl
  · rw [e22, f4]
    show _ = nI (p_lost S l + _)
    rw [hd, if_neg (fun z => by cases z)]
    rfl
abbrev z_R : List Nat := [46, 47, 48, 49, 50]
theorem c_rains {L d : Nat} {S : SH} {D : m_D} {Q : m_K} (hr : relM D S) (ho : okS S) (h : ∀ D', m_fM z_R [22] D D' → relR S S.1 D' → Q none D') : m_call L (d + 3) 113 [.ref 34] D Q := by
  have k3 : ∀ (m l : Nat) (D1 : m_D), l + m = S.1 → m_fM z_R [22] D D1 → relR S l D1 → m_V L (d + 2) Q t_X5_rains 0 (48, [some (.ref 34), some (.int (nI l))], [], D1) := by
    intro m
    induction m with
    | zero =>
      intro l D1 hm hf hF
      have hm : l = S.1 := by omega
      subst hm
      have hr1 := relM_keep hf (by decide) (by decide) hr
      refine v_go rfl ?_
      rw [hr1.1]
      refine v_bT rfl (Int32.le_refl _) ?_
      exact v_rt rfl trivial (h D1 hf hF)
    | succ m ih =>
      intro l D1 hm hf hF
      have hr1 := relM_keep hf (by decide) (by decide) hr
      have hn6 := ho.1
      have hl : l < S.1 := by omega
      have hcl : (nI l).toNatClampNeg = l := nI_clamp (by omega)
      have hin : vp_in (nI l) 6 := vp_in_nI (by omega) (by omega)
      have ih := fun D2 => ih (l + 1) D2 (by omega)
      rw [← nI_1] at ih
      refine v_go rfl ?_
      rw [hr1.1]
      refine v_bF rfl (nI_ge (by omega) (by omega)) ?_
      refine v_go rfl ?_
      refine v_ca rfl ?_
      refine c_reads hr1 ho hl (fun D2 hf2 hi2 e46 e47 => ?_)
      have hf02 := hf.trans (hf2.sub (Y := z_R) (G := [22]) (by simp) (by simp))
      have hr2 := relM_keep hf02 (by decide) (by decide) hr
      have hF2 : relR S l D2 := by
        obtain ⟨f1, f2, f3, f4⟩ := hF
        refine ⟨fun i hi => ?_, ?_, ?_, ?_⟩
        · rw [(hi2 i (by omega)).1, (hi2 i (by omega)).2, hf2.1 48 (by simp) (by decide)]
          exact f1 i hi
        · rw [hf2.1 49 (by simp) (by decide)]
          exact f2
        · rw [hf2.1 50 (by simp) (by decide)]
          exact f3
        · rw [hf2.2 22 (by simp)]
          exact f4
      obtain ⟨q1, q2⟩ := p_fr_ok S l S.2.1
      obtain ⟨ol1, ol2⟩ := ho.2.2.1 l hl
      obtain ⟨rl1, rl2⟩ := hr2.2.2.1 l hl
      refine v_go rfl ?_
      refine v_sd rfl hin ?_
      rw [hcl, e47]
      cases hby : p_by S l with
      | none =>
        refine v_bF rfl (by decide) ?_
        refine v_go rfl ?_
        refine v_sd rfl hin ?_
        rw [hcl]
        refine v_go rfl ?_
        refine v_sd rfl hin ?_
        rw [hcl]
        have e47' : m_up D2 48 l 0 47 l = oI (p_by S l) := e47
        rw [e47', hby]
        refine v_bT rfl (by decide) ?_
        refine v_run 2 rfl (ih _ (hf02.up (by simp) (by decide)) (relR_none hF2 e46 e47 hby rfl rfl ?_ rfl rfl rfl))
        rw [p_amt_no hby]
        rfl
      | some c =>
        have hc : c < S.2.1 := (q2 c hby).1
        have hc3 : S.2.1 ≤ 3 := ho.2.1
        refine v_bT rfl (nI_pos' (by omega)) ?_
        refine v_go rfl ?_
        refine v_sd rfl hin ?_
        rw [hcl, e47, hby]
        refine v_go rfl ?_
        refine v_sd rfl hin ?_
        rw [hcl, rl1]
        refine v_ca rfl ?_
        refine c_givenM hr2 ho hc ol1 ?_
        have ham : p_amt S l = p_give (S.2.2.1 2 c) (S.2.2.1 0 l) := by unfold p_amt; rw [hby]
        rw [← ham]
        refine v_sd rfl hin ?_
        rw [hcl]
        refine v_go rfl ?_
        refine v_sd rfl hin ?_
        rw [hcl]
        have e47' : m_up D2 48 l (nI (p_amt S l)) 47 l = oI (p_by S l) := e47
        rw [e47', hby]
        refine v_bF rfl (nI_pos (by omega)) ?_
        refine v_go rfl ?_
        refine v_sd rfl hin ?_
        rw [hcl]
        refine v_go rfl ?_
        refine v_sd rfl hin ?_
        rw [hcl]
        refine v_go rfl ?_
        refine v_sd rfl hin ?_
        rw [hcl]
        have e46' : m_up D2 48 l (nI (p_amt S l)) 46 l = oI (p_hour S l) := e46
        have e36' : m_up D2 48 l (nI (p_amt S l)) 36 l = nI (S.2.2.1 1 l) := rl2
        rw [e46', e36', m_up_s]
        cases hh : p_hour S l with
        | none => exact absurd hh (q2 c hby).2
        | some t =>
          have ht : t < 6 := by have := q1 t hh; omega
          have hds := p_dst_to hh hby
          have hf3 := hf02.up (i := 48) (j := l) (v := nI (p_amt S l)) (by simp) (by decide)
          have hr3 : relM (m_up D2 48 l (nI (p_amt S l))) S := hr2
          refine v_ca rfl ?_
          refine c_falls (f := S.2.2.1 1 l) (t := t) hr3 ol2 ht (fun hz => ?_) (fun g hz => ?_)
          · refine v_run 2 rfl (ih _ (hf3.upF (by simp)) (relR_lost hF2 e46 e47 (hds.trans hz) rfl rfl rfl rfl rfl rfl))
          · have hg : g < 4 := p_to_lt ol2 hz
            refine v_run 2 rfl (ih _ ((hf3.up (by simp) (by decide)).up (by simp) (by decide)) (relR_some hF2 e46 e47 hh (hds.trans hz) ht rfl rfl rfl rfl rfl rfl))
  have k2 : ∀ (m l : Nat) (D1 : m_D), l + m = 4 → m_fM z_R [22] D D1 → D1 34 22 = 0 → (∀ j, j < 24 → D1 49 j = 0) → (∀ j, j < l → D1 50 j = 0) → m_V L (d + 2) Q t_X5_rains 0 (28, [some (.ref 34), some (.int (nI l))], [], D1) := by
    intro m
    induction m with
    | zero =>
      intro l D1 hm hf h22 h49 h50
      have hm : l = 4 := by omega
      subst hm
      refine v_go rfl ?_
      refine v_bT rfl (Int32.le_refl _) ?_
      exact v_run 2 rfl (k3 S.1 0 D1 (by omega) hf ⟨fun i hi => absurd hi (by omega), fun f t hf ht => h49 _ (by omega), fun f hf => h50 f hf, h22⟩)
    | succ m ih =>
      intro l D1 hm hf h22 h49 h50
      have hcl : (nI l).toNatClampNeg = l := nI_clamp (by omega)
      have hin : vp_in (nI l) 4 := vp_in_nI (by omega) (by omega)
      have ih := ih (l + 1) (m_up D1 50 l 0) (by omega) (hf.up (by simp) (by decide)) h22 h49 (fun j hj => by
        by_cases e : j = l
        · rw [e, m_up_s]
        · rw [m_up_n e]
          exact h50 j (by omega))
      rw [← nI_1] at ih
      refine v_go rfl ?_
      refine v_bF rfl (nI_ge (b := 4) (by omega) (by omega)) ?_
      refine v_go rfl ?_
      refine v_sd rfl hin ?_
      rw [hcl]
      exact v_run 2 rfl ih
  have k1 : ∀ (m l : Nat) (D1 : m_D), l + m = 24 → m_fM z_R [22] D D1 → D1 34 22 = 0 → (∀ j, j < l → D1 49 j = 0) → m_V L (d + 2) Q t_X5_rains 0 (7, [some (.ref 34), some (.int (nI l))], [], D1) := by
    intro m
    induction m with
    | zero =>
      intro l D1 hm hf h22 h49
      have hm : l = 24 := by omega
      subst hm
      refine v_go rfl ?_
      refine v_bT rfl (Int32.le_refl _) ?_
      exact v_run 2 rfl (k2 4 0 D1 (by omega) hf h22 h49 (fun j hj => absurd hj (by omega)))
    | succ m ih =>
      intro l D1 hm hf h22 h49
      have hcl : (nI l).toNatClampNeg = l := nI_clamp (by omega)
      have hin : vp_in (nI l) 24 := vp_in_nI (by omega) (by omega)
      have ih := ih (l + 1) (m_up D1 49 l 0) (by omega) (hf.up (by simp) (by decide)) h22 (fun j hj => by
        by_cases e : j = l
        · rw [e, m_up_s]
        · rw [m_up_n e]
          exact h49 j (by omega))
      rw [← nI_1] at ih
      refine v_go rfl ?_
      refine v_bF rfl (nI_ge (b := 24) (by omega) (by omega)) ?_
      refine v_go rfl ?_
      refine v_sd rfl hin ?_
      rw [hcl]
      exact v_run 2 rfl ih
  refine v_in (tb' := t_X5_rains) (rk' := 0) rfl rfl rfl ?_
  exact v_run 5 rfl (k1 24 0 _ (by omega) ((m_fM.refl _ _ _).upF (by simp)) m_up_s (fun j hj => absurd hj (by omega)))
end
section
/-! ===== the whole state: shower, readings (how many, fields, wets), sheets (lane, length, cells), trace, fault ===== -/
abbrev ZS : Type := SH × (Nat × (Nat → Nat) × (Nat → Nat)) × (Nat → Option (Nat × Nat × (Nat → Int32))) × Int32 × Int32
def shC (k : Nat) (D : m_D) : Option (Nat × Nat × (Nat → Int32)) → Prop
  | none => D (24 + 2 * k) 1 = 0
  | some (la, n, f) => D (24 + 2 * k) 1 = 1 ∧ D (24 + 2 * k) 2 = nI la ∧ D (24 + 2 * k) 3 = nI n ∧ ∀ i, i < n → D (25 + 2 * k) i = f i
def shM (k : Nat) (D : m_D) : Option (Nat × Nat × (Nat → Int32)) → Prop
  | none => D 56 k = -1
  | some (la, n, f) => D 56 k = nI n ∧ D 57 k = nI la ∧ ∀ i, i < n → D 58 (60 * k + i) = f i
def InvC (Z : ZS) (D : m_D) : Prop := relC 1 D Z.1 ∧ D 0 7 = nI Z.2.1.1 ∧ (∀ i, i < Z.2.1.1 → D 32 i = nI (Z.2.1.2.1 i) ∧ D 33 i = nI (Z.2.1.2.2 i)) ∧ (∀ k, k < 4 → shC k D (Z.2.2.1 k)) ∧ D 0 8 = Z.2.2.2.1 ∧ D 0 9 = Z.2.2.2.2
def InvM (Z : ZS) (D : m_D) : Prop := relM D Z.1 ∧ D 34 26 = nI Z.2.1.1 ∧ (∀ i, i < Z.2.1.1 → D 54 i = nI (Z.2.1.2.1 i) ∧ D 55 i = nI (Z.2.1.2.2 i)) ∧ (∀ k, k < 4 → shM k D (Z.2.2.1 k)) ∧ D 34 33 = Z.2.2.2.1 ∧ D 34 0 = Z.2.2.2.2
def okZ (Z : ZS) : Prop := okS Z.1 ∧ (Z.1.1 = 0 ↔ Z.1.2.1 = 0) ∧ Z.2.1.1 ≤ 8 ∧ (∀ i, i < Z.2.1.1 → Z.2.1.2.1 i < 4 ∧ Z.2.1.2.2 i ≤ 120) ∧ ∀ k, k < 4 → ∀ la n f, Z.2.2.1 k = some (la, n, f) → la < 3 ∧ n ≤ 60
/-- the cells of the other side stay -/
def frC (D D' : m_D) : Prop := ∀ a, 34 ≤ a → D' a = D a
def frM (D D' : m_D) : Prop := ∀ a, a < 34 ∨ a = 60 → D' a = D a
theorem shC_keep {k : Nat} {D D' : m_D} {s : Option (Nat × Nat × (Nat → Int32))} (h1 : D' (24 + 2 * k) = D (24 + 2 * k)) (h2 : D' (25 + 2 * k) = D (25 + 2 * k)) (h : shC k D s) : shC k D' s := by
  match s, h with
  | none, h => exact (congrFun h1 1).trans h
  | some (la, n, f), h => exact ⟨(congrFun h1 1).trans h.1, (congrFun h1 2).trans h.2.1, (congrFun h1 3).trans h.2.2.1, fun i hi => (congrFun h2 i).trans (h.2.2.2 i hi)⟩
theorem shM_keep {k : Nat} {D D' : m_D} {s : Option (Nat × Nat × (Nat → Int32))} (h1 : D' 56 = D 56) (h2 : D' 57 = D 57) (h3 : D' 58 = D 58) (h : shM k D s) : shM k D' s := by
  match s, h with
  | none, h => exact (congrFun h1 k).trans h
  | some (la, n, f), h => exact ⟨(congrFun h1 k).trans h.1, (congrFun h2 k).trans h.2.1, fun i hi => (congrFun h3 _).trans (h.2.2 i hi)⟩
theorem relC_c {B : Nat} {D D' : m_D} {S : SH} (e : ∀ i, i < 7 → D' (B + i) = D (B + i)) (h : relC B D S) : relC B D' S := by
  obtain ⟨h1, h2, h3, h4, h5⟩ := h
  have e0 : D' B = D B := e 0 (by omega)
  refine ⟨by rw [e0]; exact h1, by rw [e0]; exact h2, fun l hl => ?_, fun c hc => ?_, fun t ht => ?_⟩
  · rw [e 1 (by omega), e 2 (by omega)]
    exact h3 l hl
  · rw [e 3 (by omega), e 4 (by omega), e 5 (by omega)]
    exact h4 c hc
  · rw [e 6 (by omega)]
    exact h5 t ht
theorem relM_c {D D' : m_D} {S : SH} (e : ∀ a, 35 ≤ a → a ≤ 40 → D' a = D a) (e1 : D' 34 1 = D 34 1) (e2 : D' 34 2 = D 34 2) (h : relM D S) : relM D' S := by
  obtain ⟨h1, h2, h3, h4, h5⟩ := h
  refine ⟨by rw [e1]; exact h1, by rw [e2]; exact h2, fun l hl => ?_, fun c hc => ?_, fun t ht => ?_⟩
  · rw [e 35 (by omega) (by omega), e 36 (by omega) (by omega)]
    exact h3 l hl
  · rw [e 37 (by omega) (by omega), e 38 (by omega) (by omega), e 39 (by omega) (by omega)]
    exact h4 c hc
  · rw [e 40 (by omega) (by omega)]
    exact h5 t ht
/-- what an InvC speaks of: cells 0 .. 7 and 24 .. 33; an InvM: 35 .. 40, 54 .. 58, some fields of 34 -/
theorem InvC_keep {Z : ZS} {D D' : m_D} (h : InvC Z D) (hf : ∀ a, a < 8 ∨ (24 ≤ a ∧ a < 34) → D' a = D a) : InvC Z D' := by
  obtain ⟨h1, h2, h3, h4, h5, h6⟩ := h
  have e0 := hf 0 (by omega)
  exact ⟨relC_c (fun i hi => hf _ (by omega)) h1, by rw [e0]; exact h2, fun i hi => by rw [hf 32 (by omega), hf 33 (by omega)]; exact h3 i hi, fun k hk => shC_keep (hf _ (by omega)) (hf _ (by omega)) (h4 k hk), by rw [e0]; exact h5, by rw [e0]; exact h6⟩
theorem InvM_keep {Z : ZS} {D D' : m_D} (h : InvM Z D) (hf : ∀ a, (35 ≤ a ∧ a ≤ 40) ∨ (54 ≤ a ∧ a ≤ 58) → D' a = D a) (hg : ∀ j, j ∈ [0, 1, 2, 26, 33] → D' 34 j = D 34 j) : InvM Z D' := by
  obtain ⟨h1, h2, h3, h4, h5, h6⟩ := h
  exact ⟨relM_c (fun a b c => hf a (by omega)) (hg 1 (by simp)) (hg 2 (by simp)) h1, by rw [hg 26 (by simp)]; exact h2, fun i hi => by rw [hf 54 (by omega), hf 55 (by omega)]; exact h3 i hi, fun k hk => shM_keep (hf _ (by omega)) (hf _ (by omega)) (hf _ (by omega)) (h4 k hk), by rw [hg 33 (by simp)]; exact h5, by rw [hg 0 (by simp)]; exact h6⟩
/-- a pair of calls answers alike: the class's and the reference's -/
def StepI (y ym : Nat) (ax : List Value) : Prop := ∀ (L : Nat) (Z : ZS), okZ Z → ∃ (v : Int32) (Z' : ZS), okZ Z' ∧ (∀ (D : m_D) (Q : m_K), InvC Z D → (∀ D', frC D D' → InvC Z' D' → Q (some (.int v)) D') → m_call L 8 y (.ref 0 :: ax) D Q) ∧ ∀ (D : m_D) (Q : m_K), InvM Z D → (∀ D', frM D D' → InvM Z' D' → Q (some (.int v)) D') → m_call L 8 ym (.ref 34 :: ax) D Q
def StepL (y ym : Nat) (ax : List Value) : Prop := ∀ (L : Nat) (Z : ZS), okZ Z → ∃ (v : Int64) (Z' : ZS), okZ Z' ∧ (∀ (D : m_D) (Q : m_K), InvC Z D → (∀ D', frC D D' → InvC Z' D' → Q (some (.long v)) D') → m_call L 8 y (.ref 0 :: ax) D Q) ∧ ∀ (D : m_D) (Q : m_K), InvM Z D → (∀ D', frM D D' → InvM Z' D' → Q (some (.long v)) D') → m_call L 8 ym (.ref 34 :: ax) D Q
theorem frC.refl (D : m_D) : frC D D := fun _ _ => rfl
theorem frM.refl (D : m_D) : frM D D := fun _ _ => rfl
theorem frC.of {Z : List Nat} {D D' : m_D} (h : m_fr Z D D') (hz : ∀ a ∈ Z, a < 34) : frC D D' := fun a ha => h a (fun z => absurd (hz a z) (by omega))
theorem frM.of {Z F : List Nat} {D D' : m_D} (h : m_fM Z F D D') (hz : ∀ a ∈ Z, 34 ≤ a ∧ a ≠ 60) : frM D D' := fun a ha => h.1 a (fun z => by have := hz a z; omega) (by omega)
theorem vi_iff {x : Int32} {n : Nat} (hn : n < 2 ^ 31) : vp_in x n ↔ (¬ x < 0 ∧ ¬ nI n ≤ x) := by
  rw [vp_in_iff, Int32.lt_iff_toInt_lt, Int32.le_iff_toInt_le, nI_toInt hn, Int32.toInt_zero]
  omega
/-! small questions of the class -/
theorem c_isField {L d : Nat} {x : Int32} {D : m_D} {Q : m_K} (h1 : vp_in x 4 → Q (some (.int 1)) D) (h0 : ¬ vp_in x 4 → Q (some (.int 0)) D) : m_call L (d + 1) 85 [.int x] D Q := by
  rw [vi_iff (by omega)] at h1 h0
  refine v_in (tb' := t_X4_isField) (rk' := 2) rfl rfl rfl ?_
  refine v_go rfl ?_
  refine v_br rfl (fun z => ?_) (fun z => ?_)
  · exact v_go rfl (v_rt rfl (Or.inl rfl) (h0 (fun y => y.1 z)))
  · refine v_go rfl ?_
    refine v_br rfl (fun z2 => ?_) (fun z2 => ?_)
    · exact v_go rfl (v_rt rfl (Or.inl rfl) (h0 (fun y => y.2 z2)))
    · exact v_go rfl (v_rt rfl (Or.inr rfl) (h1 ⟨z, z2⟩))
theorem c_isSheet {L d : Nat} {x : Int32} {D : m_D} {Q : m_K} (h1 : vp_in x 4 → Q (some (.int 1)) D) (h0 : ¬ vp_in x 4 → Q (some (.int 0)) D) : m_call L (d + 1) 87 [.int x] D Q := by
  rw [vi_iff (by omega)] at h1 h0
  refine v_in (tb' := t_X4_isSheet) (rk' := 2) rfl rfl rfl ?_
  refine v_go rfl ?_
  refine v_br rfl (fun z => ?_) (fun z => ?_)
  · exact v_go rfl (v_rt rfl (Or.inl rfl) (h0 (fun y => y.1 z)))
  · refine v_go rfl ?_
    refine v_br rfl (fun z2 => ?_) (fun z2 => ?_)
    · exact v_go rfl (v_rt rfl (Or.inl rfl) (h0 (fun y => y.2 z2)))
    · exact v_go rfl (v_rt rfl (Or.inr rfl) (h1 ⟨z, z2⟩))
theorem c_isLane {L d : Nat} {x : Int32} {D : m_D} {Q : m_K} (h1 : vp_in x 3 → Q (some (.int 1)) D) (h0 : ¬ vp_in x 3 → Q (some (.int 0)) D) : m_call L (d + 1) 88 [.int x] D Q := by
  rw [vi_iff (by omega)] at h1 h0
  refine v_in (tb' := t_X4_isLane) (rk' := 2) rfl rfl rfl ?_
  refine v_go rfl ?_
  refine v_br rfl (fun z => ?_) (fun z => ?_)
  · exact v_go rfl (v_rt rfl (Or.inl rfl) (h0 (fun y => y.1 z)))
  · refine v_go rfl ?_
    refine v_br rfl (fun z2 => ?_) (fun z2 => ?_)
    · exact v_go rfl (v_rt rfl (Or.inl rfl) (h0 (fun y => y.2 z2)))
    · exact v_go rfl (v_rt rfl (Or.inr rfl) (h1 ⟨z, z2⟩))
theorem c_isHour {L d : Nat} {x : Int32} {D : m_D} {Q : m_K} (h1 : vp_in x 6 → Q (some (.int 1)) D) (h0 : ¬ vp_in x 6 → Q (some (.int 0)) D) : m_call L (d + 1) 86 [.int x] D Q := by
  rw [vi_iff (by omega)] at h1 h0
  refine v_in (tb' := t_X4_isHour) (rk' := 2) rfl rfl rfl ?_
  refine v_go rfl ?_
  refine v_br rfl (fun z => ?_) (fun z => ?_)
  · exact v_go rfl (v_rt rfl (Or.inl rfl) (h0 (fun y => y.1 z)))
  · refine v_go rfl ?_
    refine v_br rfl (fun z2 => ?_) (fun z2 => ?_)
    · exact v_go rfl (v_rt rfl (Or.inl rfl) (h0 (fun y => y.2 z2)))
    · exact v_go rfl (v_rt rfl (Or.inr rfl) (h1 ⟨z, z2⟩))
theorem vw_iff {x : Int32} {n : Nat} (hn : n + 1 < 2 ^ 31) : vp_in x (n + 1) ↔ (¬ x < 0 ∧ ¬ nI n < x) := by
  rw [vp_in_iff, Int32.lt_iff_toInt_lt, Int32.lt_iff_toInt_lt, nI_toInt (by omega), Int32.toInt_zero]
  omega
theorem c_isWithin {L d n : Nat} {x : Int32} {D : m_D} {Q : m_K} (hn : n < 1000) (h1 : vp_in x (n + 1) → Q (some (.int 1)) D) (h0 : ¬ vp_in x (n + 1) → Q (some (.int 0)) D) : m_call L (d + 1) 89 [.int x, .int (nI n)] D Q := by
  rw [vw_iff (by omega)] at h1 h0
  refine v_in (tb' := t_X4_isWithin) (rk' := 2) rfl rfl rfl ?_
  refine v_go rfl ?_
  refine v_br rfl (fun z => ?_) (fun z => ?_)
  · exact v_go rfl (v_rt rfl (Or.inl rfl) (h0 (fun y => y.1 z)))
  · refine v_go rfl ?_
    refine v_br rfl (fun z2 => ?_) (fun z2 => ?_)
    · exact v_go rfl (v_rt rfl (Or.inl rfl) (h0 (fun y => y.2 z2)))
    · exact v_go rfl (v_rt rfl (Or.inr rfl) (h1 ⟨z, z2⟩))
theorem c_isLine {L d n : Nat} {x : Int32} {D : m_D} {Q : m_K} (hn : D 1 0 = nI n) (h6 : n ≤ 6) (h1 : vp_in x n → Q (some (.int 1)) D) (h0 : ¬ vp_in x n → Q (some (.int 0)) D) : m_call L (d + 1) 83 [.ref 0, .int x] D Q := by
  rw [vi_iff (by omega)] at h1 h0
  refine v_in (tb' := t_X4_isLine) (rk' := 2) rfl rfl rfl ?_
  refine v_go rfl ?_
  refine v_br rfl (fun z => ?_) (fun z => ?_)
  · exact v_go rfl (v_rt rfl (Or.inl rfl) (h0 (fun y => y.1 z)))
  · refine v_go rfl ?_
    rw [hn]
    refine v_br rfl (fun z2 => ?_) (fun z2 => ?_)
    · exact v_go rfl (v_rt rfl (Or.inl rfl) (h0 (fun y => y.2 z2)))
    · exact v_go rfl (v_rt rfl (Or.inr rfl) (h1 ⟨z, z2⟩))
theorem c_isCrier {L d n : Nat} {x : Int32} {D : m_D} {Q : m_K} (hn : D 1 1 = nI n) (h6 : n ≤ 6) (h1 : vp_in x n → Q (some (.int 1)) D) (h0 : ¬ vp_in x n → Q (some (.int 0)) D) : m_call L (d + 1) 84 [.ref 0, .int x] D Q := by
  rw [vi_iff (by omega)] at h1 h0
  refine v_in (tb' := t_X4_isCrier) (rk' := 2) rfl rfl rfl ?_
  refine v_go rfl ?_
  refine v_br rfl (fun z => ?_) (fun z => ?_)
  · exact v_go rfl (v_rt rfl (Or.inl rfl) (h0 (fun y => y.1 z)))
  · refine v_go rfl ?_
    rw [hn]
    refine v_br rfl (fun z2 => ?_) (fun z2 => ?_)
    · exact v_go rfl (v_rt rfl (Or.inl rfl) (h0 (fun y => y.2 z2)))
    · exact v_go rfl (v_rt rfl (Or.inr rfl) (h1 ⟨z, z2⟩))
theorem c_hasShower {L d n : Nat} {D : m_D} {Q : m_K} (hn : D 1 0 = nI n) (h6 : n ≤ 6) (h1 : n ≠ 0 → Q (some (.int 1)) D) (h0 : n = 0 → Q (some (.int 0)) D) : m_call L (d + 1) 82 [.ref 0] D Q := by
  refine v_in (tb' := t_X4_hasShower) (rk' := 2) rfl rfl rfl ?_
  refine v_go rfl ?_
  rw [hn]
  by_cases e : n = 0
  · subst e
    refine v_bT rfl (by decide) ?_
    exact v_go rfl (v_rt rfl (Or.inl rfl) (h0 rfl))
  · refine v_bF rfl (nI_nle (by omega) (by omega)) ?_
    exact v_go rfl (v_rt rfl (Or.inr rfl) (h1 e))
/-- the common order of refusals of calls on a field -/
theorem c_refusalOf {L d n : Nat} {x b : Int32} {D : m_D} {Q : m_K} (hn : D 1 0 = nI n) (h6 : n ≤ 6) (hu : ¬ vp_in x 4 → Q (some (.int (-1))) D) (ho : vp_in x 4 → b = 0 → Q (some (.int (-2))) D) (hs : vp_in x 4 → ¬ b = 0 → n = 0 → Q (some (.int (-3))) D) (hk : vp_in x 4 → ¬ b = 0 → n ≠ 0 → Q (some (.int 0)) D) : m_call L (d + 2) 81 [.ref 0, .int x, .int b] D Q := by
  refine v_in (tb' := t_X4_refusalOf) (rk' := 1) rfl rfl rfl ?_
  refine v_go rfl ?_
  refine v_ca rfl ?_
  refine c_isField (fun hx => ?_) (fun hx => ?_)
  · refine v_go rfl ?_
    refine v_bT rfl (by decide) ?_
    refine v_go rfl ?_
    refine v_br rfl (fun hb => ?_) (fun hb => ?_)
    · refine v_go rfl ?_
      refine v_ca rfl ?_
      refine c_hasShower hn h6 (fun hz => ?_) (fun hz => ?_)
      · refine v_go rfl ?_
        refine v_bF rfl (by decide) ?_
        exact v_go rfl (v_rt rfl trivial (hk hx hb hz))
      · refine v_go rfl ?_
        refine v_bT rfl (by decide) ?_
        exact v_go rfl (v_rt rfl trivial (hs hx hb hz))
    · have hb : b = 0 := Decidable.not_not.mp hb
      exact v_go rfl (v_rt rfl trivial (ho hx hb))
  · refine v_go rfl ?_
    refine v_bF rfl (by decide) ?_
    exact v_go rfl (v_rt rfl trivial (hu hx))
end
section
/-! ===== small calls: trace, fault, tell, bribe, as, print, begin ===== -/
theorem InvC_tr {S : SH} {rd : Nat × (Nat → Nat) × (Nat → Nat)} {sh : Nat → Option (Nat × Nat × (Nat → Int32))} {tr fl : Int32} {D : m_D} (v : Int32) (h : InvC (S, rd, sh, tr, fl) D) : InvC (S, rd, sh, v, fl) (m_up D 0 8 v) := ⟨h.1, h.2.1, h.2.2.1, fun k hk => shC_keep (m_up_ne (by omega)) (m_up_ne (by omega)) (h.2.2.2.1 k hk), m_up_s, h.2.2.2.2.2⟩
theorem InvC_fl {S : SH} {rd : Nat × (Nat → Nat) × (Nat → Nat)} {sh : Nat → Option (Nat × Nat × (Nat → Int32))} {tr fl : Int32} {D : m_D} (v : Int32) (h : InvC (S, rd, sh, tr, fl) D) : InvC (S, rd, sh, tr, v) (m_up D 0 9 v) := ⟨h.1, h.2.1, h.2.2.1, fun k hk => shC_keep (m_up_ne (by omega)) (m_up_ne (by omega)) (h.2.2.2.1 k hk), h.2.2.2.2.1, m_up_s⟩
theorem InvM_tr {S : SH} {rd : Nat × (Nat → Nat) × (Nat → Nat)} {sh : Nat → Option (Nat × Nat × (Nat → Int32))} {tr fl : Int32} {D : m_D} (v : Int32) (h : InvM (S, rd, sh, tr, fl) D) : InvM (S, rd, sh, v, fl) (m_up D 34 33 v) := ⟨h.1, h.2.1, h.2.2.1, fun k hk => shM_keep rfl rfl rfl (h.2.2.2.1 k hk), m_up_s, h.2.2.2.2.2⟩
theorem InvM_fl {S : SH} {rd : Nat × (Nat → Nat) × (Nat → Nat)} {sh : Nat → Option (Nat × Nat × (Nat → Int32))} {tr fl : Int32} {D : m_D} (v : Int32) (h : InvM (S, rd, sh, tr, fl) D) : InvM (S, rd, sh, tr, v) (m_up D 34 0 v) := ⟨h.1, h.2.1, h.2.2.1, fun k hk => shM_keep rfl rfl rfl (h.2.2.2.1 k hk), h.2.2.2.2.1, m_up_s⟩
theorem frC.up {D D' : m_D} {i j : Nat} {v : Int32} (h : frC D D') (hi : i < 34) : frC D (m_up D' i j v) := fun a ha => (m_up_ne (D := D') (i := i) (a := a) (by omega)).trans (h a ha)
theorem frM.up {D D' : m_D} {i j : Nat} {v : Int32} (h : frM D D') (hi : 34 ≤ i ∧ i ≠ 60) : frM D (m_up D' i j v) := fun a ha => (m_up_ne (D := D') (i := i) (a := a) (by omega)).trans (h a ha)
theorem frC.trans {D D1 D2 : m_D} (h : frC D D1) (g : frC D1 D2) : frC D D2 := fun a ha => (g a ha).trans (h a ha)
theorem frM.trans {D D1 D2 : m_D} (h : frM D D1) (g : frM D1 D2) : frM D D2 := fun a ha => (g a ha).trans (h a ha)
theorem s_trace : StepI 77 163 [] := by
  intro L Z hz
  refine ⟨Z.2.2.2.1, Z, hz, fun D Q hI h => ?_, fun D Q hI h => ?_⟩
  · refine v_in (tb' := t_X4_trace) (rk' := 1) rfl rfl rfl ?_
    refine v_go rfl ?_
    rw [hI.2.2.2.2.1]
    exact v_rt rfl trivial (h D (frC.refl _) hI)
  · refine v_in (tb' := t_X5_trace) (rk' := 1) rfl rfl rfl ?_
    refine v_go rfl ?_
    rw [hI.2.2.2.2.1]
    exact v_rt rfl trivial (h D (frM.refl _) hI)
theorem s_fault : StepI 78 164 [] := by
  intro L Z hz
  refine ⟨Z.2.2.2.2, Z, hz, fun D Q hI h => ?_, fun D Q hI h => ?_⟩
  · refine v_in (tb' := t_X4_fault) (rk' := 1) rfl rfl rfl ?_
    refine v_go rfl ?_
    rw [hI.2.2.2.2.2]
    exact v_rt rfl trivial (h D (frC.refl _) hI)
  · refine v_in (tb' := t_X5_fault) (rk' := 1) rfl rfl rfl ?_
    refine v_go rfl ?_
    rw [hI.2.2.2.2.2]
    exact v_rt rfl trivial (h D (frM.refl _) hI)
theorem c_leave {L d : Nat} {v : Int32} {D : m_D} {Q : m_K} (h : Q none (m_up D 0 8 (31 * D 0 8 + v))) : m_call L (d + 1) 75 [.ref 0, .int v] D Q := by
  refine v_in (tb' := t_X4_leave) (rk' := 0) rfl rfl rfl ?_
  refine v_go rfl ?_
  exact v_rt rfl trivial h
theorem c_traced {L d : Nat} {v : Int32} {D : m_D} {Q : m_K} (h : Q none (m_up D 34 33 (31 * D 34 33 + v))) : m_call L (d + 1) 159 [.ref 34, .int v] D Q := by
  refine v_in (tb' := t_X5_traced) (rk' := 0) rfl rfl rfl ?_
  refine v_go rfl ?_
  exact v_rt rfl trivial h
theorem c_plain {L d c : Nat} {S : SH} {D : m_D} {Q : m_K} (hr : relC 1 D S) (hc : c < S.2.1) (hk : S.2.1 ≤ 3) (h : Q (some (.int (nI (S.2.2.1 3 c)))) (m_up D 0 8 (31 * D 0 8 + 1))) : m_call L (d + 2) 71 [.ref 0, .int (nI c)] D Q := by
  have hcl : (nI c).toNatClampNeg = c := nI_clamp (by omega)
  have hin : vp_in (nI c) 3 := vp_in_nI (by omega) (by omega)
  refine v_in (tb' := t_X4_plainTelling) (rk' := 1) rfl rfl rfl ?_
  refine v_go rfl ?_
  refine v_ca rfl ?_
  refine c_leave ?_
  refine v_go rfl ?_
  refine v_sd rfl hin ?_
  rw [hcl]
  have e : m_up D 0 8 (31 * D 0 8 + 1) 5 c = nI (S.2.2.1 3 c) := (hr.2.2.2.1 c hc).2.1
  rw [e]
  exact v_rt rfl trivial h
theorem c_mumbling {L d c : Nat} {S : SH} {D : m_D} {Q : m_K} (hr : relC 1 D S) (hc : c < S.2.1) (hk : S.2.1 ≤ 3) (h : Q (some (.int (nI (S.2.2.1 3 c) + 100))) (m_up (m_up D 0 8 (31 * D 0 8 + 2)) 0 8 (31 * (31 * D 0 8 + 2) + 1))) : m_call L (d + 3) 72 [.ref 0, .int (nI c)] D Q := by
  refine v_in (tb' := t_X4_mumblingTelling) (rk' := 1) rfl rfl rfl ?_
  refine v_go rfl ?_
  refine v_ca rfl ?_
  refine c_leave ?_
  refine v_go rfl ?_
  refine v_ca rfl ?_
  refine c_plain (D := m_up D 0 8 (31 * D 0 8 + 2)) hr hc hk ?_
  refine v_go rfl ?_
  exact v_rt rfl trivial h
theorem upd_ii {f : Nat → Int32} {k : Nat} {x y : Int32} : upd (upd f k x) k y = upd f k y := by
  funext j
  by_cases e : j = k
  · rw [e, pk_us, pk_us]
  · rw [pk_un e, pk_un e, pk_un e]
theorem m_up_ii {D : m_D} {i k : Nat} {x y : Int32} : m_up (m_up D i k x) i k y = m_up D i k y := by
  funext a
  by_cases e : a = i
  · rw [e, m_up_at, m_up_at, m_up_at, upd_ii]
  · rw [m_up_ne e, m_up_ne e, m_up_ne e]
theorem s_tell (x : Int32) : StepI 70 160 [.int x] := by
  intro L Z hz
  obtain ⟨S, rd, sh, tr, fl⟩ := Z
  have hk3 : S.2.1 ≤ 3 := hz.1.2.1
  have hk6 : S.2.1 ≤ 6 := by omega
  by_cases hx : vp_in x S.2.1
  · obtain ⟨c, hc, rfl⟩ := vp_in_of hx (by omega)
    have hcl : (nI c).toNatClampNeg = c := nI_clamp (by omega)
    have hin : vp_in (nI c) 3 := vp_in_nI (by omega) (by omega)
    have hoS : okS S := hz.1
    have ho := hoS.2.2.2 c hc
    have hkd : S.2.2.1 2 c = 0 ∨ S.2.2.1 2 c = 1 ∨ S.2.2.1 2 c = 2 := by omega
    rcases hkd with hkd | hkd | hkd
    · refine ⟨nI (S.2.2.1 3 c), (S, rd, sh, 31 * tr + 1, fl), hz, fun D Q hI h => ?_, fun D Q hI h => ?_⟩
      · have ht : D 0 8 = tr := hI.2.2.2.2.1
        refine v_in (tb' := t_X4_tell) (rk' := 1) rfl rfl rfl ?_
        refine v_go rfl ?_
        refine v_ca rfl ?_
        refine c_isCrier hI.1.2.1 hk6 (fun _ => ?_) (fun z => absurd hx z)
        refine v_go rfl ?_
        refine v_bT rfl (by decide) ?_
        refine v_go rfl ?_
        refine v_sd rfl hin ?_
        rw [hcl, (hI.1.2.2.2.1 c hc).1, hkd]
        refine v_sw rfl ?_
        refine br_c (fun _ => ?_) (fun z => absurd (by decide) z)
        refine v_go rfl ?_
        refine v_ca rfl ?_
        refine c_plain hI.1 hc hk3 ?_
        rw [ht]
        exact v_rt rfl trivial (h _ ((frC.refl _).up (by omega)) (InvC_tr _ hI))
      · have ht : D 34 33 = tr := hI.2.2.2.2.1
        refine v_in (tb' := t_X5_tell) (rk' := 1) rfl rfl rfl ?_
        refine v_go rfl ?_
        refine v_ca rfl ?_
        refine c_noCrier hI.1.2.1 hk6 (fun _ => ?_) (fun z => absurd hx z)
        refine v_go rfl ?_
        refine v_bT rfl (by decide) ?_
        refine v_go rfl ?_
        refine v_sd rfl hin ?_
        rw [hcl, (hI.1.2.2.2.1 c hc).1, hkd]
        refine v_go rfl ?_
        refine v_bT rfl (by decide) ?_
        refine v_go rfl ?_
        refine v_bT rfl (by decide) ?_
        refine v_go rfl ?_
        refine v_ca rfl ?_
        refine c_traced ?_
        rw [ht]
        refine v_go rfl ?_
        refine v_bT rfl (by decide) ?_
        refine v_go rfl ?_
        refine v_sd rfl hin ?_
        rw [hcl]
        have e : m_up D 34 33 (31 * tr + 1) 38 c = nI (S.2.2.1 3 c) := (hI.1.2.2.2.1 c hc).2.1
        rw [e]
        refine v_go rfl ?_
        refine v_bF rfl (by decide) ?_
        exact v_go rfl (v_rt rfl trivial (h _ ((frM.refl _).up (by omega)) (InvM_tr _ hI)))
    · refine ⟨nI (S.2.2.1 3 c) + 100, (S, rd, sh, 31 * (31 * tr + 2) + 1, fl), hz, fun D Q hI h => ?_, fun D Q hI h => ?_⟩
      · have ht : D 0 8 = tr := hI.2.2.2.2.1
        refine v_in (tb' := t_X4_tell) (rk' := 1) rfl rfl rfl ?_
        refine v_go rfl ?_
        refine v_ca rfl ?_
        refine c_isCrier hI.1.2.1 hk6 (fun _ => ?_) (fun z => absurd hx z)
        refine v_go rfl ?_
        refine v_bT rfl (by decide) ?_
        refine v_go rfl ?_
        refine v_sd rfl hin ?_
        rw [hcl, (hI.1.2.2.2.1 c hc).1, hkd]
        refine v_sw rfl ?_
        refine br_c (fun z => absurd z (by decide)) (fun _ => ?_)
        refine br_c (fun _ => ?_) (fun z => absurd (by decide) z)
        refine v_go rfl ?_
        refine v_ca rfl ?_
        refine c_mumbling hI.1 hc hk3 ?_
        rw [ht, m_up_ii]
        exact v_rt rfl trivial (h _ ((frC.refl _).up (by omega)) (InvC_tr _ hI))
      · have ht : D 34 33 = tr := hI.2.2.2.2.1
        refine v_in (tb' := t_X5_tell) (rk' := 1) rfl rfl rfl ?_
        refine v_go rfl ?_
        refine v_ca rfl ?_
        refine c_noCrier hI.1.2.1 hk6 (fun _ => ?_) (fun z => absurd hx z)
        refine v_go rfl ?_
        refine v_bT rfl (by decide) ?_
        refine v_go rfl ?_
        refine v_sd rfl hin ?_
        rw [hcl, (hI.1.2.2.2.1 c hc).1, hkd]
        refine v_go rfl ?_
        refine v_bT rfl (by decide) ?_
        refine v_go rfl ?_
        refine v_bF rfl (by decide) ?_
        refine v_go rfl ?_
        refine v_ca rfl ?_
        refine c_traced ?_
        refine v_go rfl ?_
        refine v_ca rfl ?_
        refine c_traced ?_
        rw [m_up_s, ht, m_up_ii]
        refine v_go rfl ?_
        refine v_bT rfl (by decide) ?_
        refine v_go rfl ?_
        refine v_sd rfl hin ?_
        rw [hcl]
        have e : m_up D 34 33 (31 * (31 * tr + 2) + 1) 38 c = nI (S.2.2.1 3 c) := (hI.1.2.2.2.1 c hc).2.1
        rw [e]
        refine v_go rfl ?_
        refine v_bT rfl (by decide) ?_
        refine v_go rfl ?_
        refine v_bF rfl (by decide) ?_
        exact v_go rfl (v_rt rfl trivial (h _ ((frM.refl _).up (by omega)) (InvM_tr _ hI)))
    · have e2 : nI (S.2.2.1 3 c) + 100 + nI (S.2.2.1 3 c) = 2 * nI (S.2.2.1 3 c) + 100 := by
        have h3 := ho.2.2.1
        generalize S.2.2.1 3 c = p at h3
        match p, h3 with
        | 0, _ => rfl
        | 1, _ => rfl
        | 2, _ => rfl
        | 3, _ => rfl
      refine ⟨nI (S.2.2.1 3 c) + 100 + nI (S.2.2.1 3 c), (S, rd, sh, 31 * (31 * (31 * (31 * tr + 3) + 2) + 1) + 1, fl), hz, fun D Q hI h => ?_, fun D Q hI h => ?_⟩
      · have ht : D 0 8 = tr := hI.2.2.2.2.1
        refine v_in (tb' := t_X4_tell) (rk' := 1) rfl rfl rfl ?_
        refine v_go rfl ?_
        refine v_ca rfl ?_
        refine c_isCrier hI.1.2.1 hk6 (fun _ => ?_) (fun z => absurd hx z)
        refine v_go rfl ?_
        refine v_bT rfl (by decide) ?_
        refine v_go rfl ?_
        refine v_sd rfl hin ?_
        rw [hcl, (hI.1.2.2.2.1 c hc).1, hkd]
        refine v_sw rfl ?_
        refine br_c (fun z => absurd z (by decide)) (fun _ => ?_)
        refine br_c (fun z => absurd z (by decide)) (fun _ => ?_)
        refine v_go rfl ?_
        refine v_ca rfl ?_
        refine v_in (tb' := t_X4_chantingTelling) (rk' := 1) rfl rfl rfl ?_
        refine v_go rfl ?_
        refine v_ca rfl ?_
        refine c_leave ?_
        refine v_go rfl ?_
        refine v_ca rfl ?_
        refine c_mumbling (D := m_up D 0 8 (31 * D 0 8 + 3)) hI.1 hc hk3 ?_
        rw [m_up_s, ht, m_up_ii, m_up_ii]
        refine v_go rfl ?_
        refine v_ca rfl ?_
        refine c_plain (D := m_up D 0 8 (31 * (31 * (31 * tr + 3) + 2) + 1)) hI.1 hc hk3 ?_
        rw [m_up_s, m_up_ii]
        refine v_go rfl ?_
        refine v_rt rfl trivial ?_
        exact v_rt rfl trivial (h _ ((frC.refl _).up (by omega)) (InvC_tr _ hI))
      · have ht : D 34 33 = tr := hI.2.2.2.2.1
        refine v_in (tb' := t_X5_tell) (rk' := 1) rfl rfl rfl ?_
        refine v_go rfl ?_
        refine v_ca rfl ?_
        refine c_noCrier hI.1.2.1 hk6 (fun _ => ?_) (fun z => absurd hx z)
        refine v_go rfl ?_
        refine v_bT rfl (by decide) ?_
        refine v_go rfl ?_
        refine v_sd rfl hin ?_
        rw [hcl, (hI.1.2.2.2.1 c hc).1, hkd]
        refine v_go rfl ?_
        refine v_bF rfl (by decide) ?_
        refine v_go rfl ?_
        refine v_ca rfl ?_
        refine c_traced ?_
        refine v_go rfl ?_
        refine v_bF rfl (by decide) ?_
        refine v_go rfl ?_
        refine v_ca rfl ?_
        refine c_traced ?_
        refine v_go rfl ?_
        refine v_ca rfl ?_
        refine c_traced ?_
        rw [m_up_s, m_up_ii, m_up_s, m_up_ii, ht]
        refine v_go rfl ?_
        refine v_bF rfl (by decide) ?_
        refine v_go rfl ?_
        refine v_ca rfl ?_
        refine c_traced ?_
        rw [m_up_s, m_up_ii]
        refine v_go rfl ?_
        refine v_sd rfl hin ?_
        rw [hcl]
        have e : m_up D 34 33 (31 * (31 * (31 * (31 * tr + 3) + 2) + 1) + 1) 38 c = nI (S.2.2.1 3 c) := (hI.1.2.2.2.1 c hc).2.1
        rw [e]
        refine v_go rfl ?_
        refine v_bT rfl (by decide) ?_
        refine v_go rfl ?_
        refine v_bT rfl (by decide) ?_
        refine v_go rfl ?_
        rw [← e2]
        exact v_rt rfl trivial (h _ ((frM.refl _).up (by omega)) (InvM_tr _ hI))
  · refine ⟨-1, (S, rd, sh, tr, fl), hz, fun D Q hI h => ?_, fun D Q hI h => ?_⟩
    · refine v_in (tb' := t_X4_tell) (rk' := 1) rfl rfl rfl ?_
      refine v_go rfl ?_
      refine v_ca rfl ?_
      refine c_isCrier hI.1.2.1 hk6 (fun z => absurd z hx) (fun _ => ?_)
      refine v_go rfl ?_
      refine v_bF rfl (by decide) ?_
      exact v_go rfl (v_rt rfl trivial (h _ (frC.refl _) hI))
    · refine v_in (tb' := t_X5_tell) (rk' := 1) rfl rfl rfl ?_
      refine v_go rfl ?_
      refine v_ca rfl ?_
      refine c_noCrier hI.1.2.1 hk6 (fun z => absurd z hx) (fun _ => ?_)
      refine v_go rfl ?_
      refine v_bF rfl (by decide) ?_
      exact v_go rfl (v_rt rfl trivial (h _ (frM.refl _) hI))
end
section
/-! ===== bribe, as, print, begin, cough ===== -/
theorem c_refused {L d : Nat} {v : Int32} {D : m_D} {Q : m_K} (h : Q (some (.int v)) (m_up D 34 0 0)) : m_call L (d + 1) 94 [.ref 34, .int v] D Q := by
  refine v_in (tb' := t_X5_refused) (rk' := 1) rfl rfl rfl ?_
  refine v_go rfl ?_
  exact v_rt rfl trivial h
theorem c_failed {L d : Nat} {v : Int32} {D : m_D} {Q : m_K} (h : Q (some (.int (-10 - v))) (m_up D 34 0 v)) : m_call L (d + 1) 95 [.ref 34, .int v] D Q := by
  refine v_in (tb' := t_X5_failed) (rk' := 1) rfl rfl rfl ?_
  refine v_go rfl ?_
  exact v_rt rfl trivial h
theorem c_faulted {L d : Nat} {v : Int32} {D : m_D} {Q : m_K} (h : Q (some (.int (-10 - v))) (m_up D 0 9 v)) : m_call L (d + 1) 80 [.ref 0, .int v] D Q := by
  refine v_in (tb' := t_X4_faulted) (rk' := 1) rfl rfl rfl ?_
  refine v_go rfl ?_
  exact v_rt rfl trivial h
theorem s_bribe (x : Int32) : StepI 74 161 [.int x] := by
  intro L Z hz
  obtain ⟨S, rd, sh, tr, fl⟩ := Z
  have hoS : okS S := hz.1
  have hk3 : S.2.1 ≤ 3 := hoS.2.1
  have hk6 : S.2.1 ≤ 6 := by omega
  by_cases hx : vp_in x S.2.1
  · obtain ⟨c, hc, rfl⟩ := vp_in_of hx (by omega)
    have hcl : (nI c).toNatClampNeg = c := nI_clamp (by omega)
    have hin : vp_in (nI c) 3 := vp_in_nI (by omega) (by omega)
    by_cases hkd : S.2.2.1 2 c = 2
    · refine ⟨60, (S, rd, sh, 31 * tr + 5, fl), hz, fun D Q hI h => ?_, fun D Q hI h => ?_⟩
      · have ht : D 0 8 = tr := hI.2.2.2.2.1
        have r4 : D 4 c = nI (S.2.2.1 2 c) := (hI.1.2.2.2.1 c hc).1
        refine v_in (tb' := t_X4_bribe) (rk' := 1) rfl rfl rfl ?_
        refine v_go rfl ?_
        refine v_ca rfl ?_
        refine c_isCrier hI.1.2.1 hk6 (fun _ => ?_) (fun z => absurd hx z)
        refine v_go rfl ?_
        refine v_bT rfl (by decide) ?_
        refine v_go rfl ?_
        refine v_sd rfl hin ?_
        rw [hcl, r4, hkd]
        refine v_go rfl ?_
        refine v_bF rfl (by decide) ?_
        refine v_go rfl ?_
        refine v_ca rfl ?_
        refine c_leave ?_
        rw [ht]
        refine v_go rfl ?_
        exact v_rt rfl trivial (h _ ((frC.refl _).up (by omega)) (InvC_tr _ hI))
      · have ht : D 34 33 = tr := hI.2.2.2.2.1
        have r4 : D 37 c = nI (S.2.2.1 2 c) := (hI.1.2.2.2.1 c hc).1
        have r4' : ∀ v, m_up D 34 33 v 37 c = nI (S.2.2.1 2 c) := fun v => r4
        refine v_in (tb' := t_X5_bribe) (rk' := 1) rfl rfl rfl ?_
        refine v_go rfl ?_
        refine v_ca rfl ?_
        refine c_noCrier hI.1.2.1 hk6 (fun _ => ?_) (fun z => absurd hx z)
        refine v_go rfl ?_
        refine v_bT rfl (by decide) ?_
        refine v_go rfl ?_
        refine v_sd rfl hin ?_
        rw [hcl, r4, hkd]
        refine v_go rfl ?_
        refine v_bF rfl (by decide) ?_
        refine v_go rfl ?_
        refine v_ca rfl ?_
        refine c_traced ?_
        rw [ht]
        refine v_go rfl ?_
        refine v_sd rfl hin ?_
        rw [hcl, r4', hkd]
        refine v_go rfl ?_
        refine v_bF rfl (by decide) ?_
        exact v_go rfl (v_rt rfl trivial (h _ ((frM.refl _).up (by omega)) (InvM_tr _ hI)))
    · have hk2 : S.2.2.1 2 c ≤ 2 := (hoS.2.2.2 c hc).1
      have hne : ¬ nI (S.2.2.1 2 c) = 2 := fun z => hkd ((nI_eq (b := 2) (by omega) (by omega)).mp z)
      refine ⟨nI (S.2.2.1 4 c), (S, rd, sh, 31 * tr + 4, fl), hz, fun D Q hI h => ?_, fun D Q hI h => ?_⟩
      · have ht : D 0 8 = tr := hI.2.2.2.2.1
        have r4 : D 4 c = nI (S.2.2.1 2 c) := (hI.1.2.2.2.1 c hc).1
        have r6 : ∀ v, m_up D 0 8 v 6 c = nI (S.2.2.1 4 c) := fun v => (hI.1.2.2.2.1 c hc).2.2
        refine v_in (tb' := t_X4_bribe) (rk' := 1) rfl rfl rfl ?_
        refine v_go rfl ?_
        refine v_ca rfl ?_
        refine c_isCrier hI.1.2.1 hk6 (fun _ => ?_) (fun z => absurd hx z)
        refine v_go rfl ?_
        refine v_bT rfl (by decide) ?_
        refine v_go rfl ?_
        refine v_sd rfl hin ?_
        rw [hcl, r4]
        refine v_go rfl ?_
        refine v_bT rfl hne ?_
        refine v_go rfl ?_
        refine v_ca rfl ?_
        refine c_leave ?_
        rw [ht]
        refine v_go rfl ?_
        refine v_sd rfl hin ?_
        rw [hcl, r6]
        exact v_rt rfl trivial (h _ ((frC.refl _).up (by omega)) (InvC_tr _ hI))
      · have ht : D 34 33 = tr := hI.2.2.2.2.1
        have r4 : D 37 c = nI (S.2.2.1 2 c) := (hI.1.2.2.2.1 c hc).1
        have r4' : ∀ v, m_up D 34 33 v 37 c = nI (S.2.2.1 2 c) := fun v => r4
        have r6 : ∀ v, m_up D 34 33 v 39 c = nI (S.2.2.1 4 c) := fun v => (hI.1.2.2.2.1 c hc).2.2
        refine v_in (tb' := t_X5_bribe) (rk' := 1) rfl rfl rfl ?_
        refine v_go rfl ?_
        refine v_ca rfl ?_
        refine c_noCrier hI.1.2.1 hk6 (fun _ => ?_) (fun z => absurd hx z)
        refine v_go rfl ?_
        refine v_bT rfl (by decide) ?_
        refine v_go rfl ?_
        refine v_sd rfl hin ?_
        rw [hcl, r4]
        refine v_go rfl ?_
        refine v_bT rfl hne ?_
        refine v_go rfl ?_
        refine v_ca rfl ?_
        refine c_traced ?_
        rw [ht]
        refine v_go rfl ?_
        refine v_sd rfl hin ?_
        rw [hcl, r4']
        refine v_go rfl ?_
        refine v_bT rfl hne ?_
        refine v_go rfl ?_
        refine v_sd rfl hin ?_
        rw [hcl, r6]
        exact v_rt rfl trivial (h _ ((frM.refl _).up (by omega)) (InvM_tr _ hI))
  · refine ⟨-1, (S, rd, sh, tr, fl), hz, fun D Q hI h => ?_, fun D Q hI h => ?_⟩
    · refine v_in (tb' := t_X4_bribe) (rk' := 1) rfl rfl rfl ?_
      refine v_go rfl ?_
      refine v_ca rfl ?_
      refine c_isCrier hI.1.2.1 hk6 (fun z => absurd z hx) (fun _ => ?_)
      refine v_go rfl ?_
      refine v_bF rfl (by decide) ?_
      exact v_go rfl (v_rt rfl trivial (h _ (frC.refl _) hI))
    · refine v_in (tb' := t_X5_bribe) (rk' := 1) rfl rfl rfl ?_
      refine v_go rfl ?_
      refine v_ca rfl ?_
      refine c_noCrier hI.1.2.1 hk6 (fun z => absurd z hx) (fun _ => ?_)
      refine v_go rfl ?_
      refine v_bF rfl (by decide) ?_
      exact v_go rfl (v_rt rfl trivial (h _ (frM.refl _) hI))
theorem s_as (x y : Int32) : StepI 76 162 [.int x, .int y] := by
  intro L Z hz
  obtain ⟨S, rd, sh, tr, fl⟩ := Z
  have hoS : okS S := hz.1
  have hk3 : S.2.1 ≤ 3 := hoS.2.1
  have hk6 : S.2.1 ≤ 6 := by omega
  have hg : (2 : Int64).toInt = ((3 : Nat) : Int) - 1 := by decide
  have eC : ∀ D, InvC (S, rd, sh, tr, fl) D → InvC (S, rd, sh, tr, 0) (m_up D 0 9 0) := fun D hI => InvC_fl 0 hI
  have eM : ∀ D, InvM (S, rd, sh, tr, fl) D → InvM (S, rd, sh, tr, 0) (m_up D 34 0 0) := fun D hI => InvM_fl 0 hI
  by_cases hx : vp_in x S.2.1
  · obtain ⟨c, hc, rfl⟩ := vp_in_of hx (by omega)
    have hcl : (nI c).toNatClampNeg = c := nI_clamp (by omega)
    have hin : vp_in (nI c) 3 := vp_in_nI (by omega) (by omega)
    by_cases hy : vp_in y 3
    · obtain ⟨k, hk, rfl⟩ := vp_in_of hy (by omega)
      have hk2 : S.2.2.1 2 c ≤ 2 := (hoS.2.2.2 c hc).1
      by_cases hlt : S.2.2.1 2 c < k
      · have hl2 : nI (S.2.2.1 2 c) < nI k := nI_lt hlt (by omega)
        refine ⟨-12, (S, rd, sh, tr, 2), hz, fun D Q hI h => ?_, fun D Q hI h => ?_⟩
        · have r4 : m_up D 0 9 0 4 c = nI (S.2.2.1 2 c) := (hI.1.2.2.2.1 c hc).1
          refine v_in (tb' := t_X4_as) (rk' := 1) rfl rfl rfl ?_
          refine v_go rfl ?_
          refine v_ca rfl ?_
          refine c_isCrier (eC D hI).1.2.1 hk6 (fun _ => ?_) (fun z => absurd hx z)
          refine v_go rfl ?_
          refine v_bT rfl (by decide) ?_
          refine v_go rfl ?_
          refine v_ca rfl ?_
          refine c_isWithin (n := 2) (by omega) (fun _ => ?_) (fun z => absurd hy z)
          refine v_go rfl ?_
          refine v_bT rfl (by decide) ?_
          refine v_go rfl ?_
          refine v_sd rfl hin ?_
          rw [hcl, r4]
          refine v_go rfl ?_
          refine v_bT rfl hl2 ?_
          refine v_go rfl ?_
          refine v_ca rfl ?_
          refine c_faulted ?_
          rw [m_up_ii]
          exact v_rt rfl trivial (h _ ((frC.refl _).up (by omega)) (InvC_fl _ hI))
        · have r4 : D 37 c = nI (S.2.2.1 2 c) := (hI.1.2.2.2.1 c hc).1
          refine v_in (tb' := t_X5_as) (rk' := 1) rfl rfl rfl ?_
          refine v_go rfl ?_
          refine v_ca rfl ?_
          refine c_noCrier hI.1.2.1 hk6 (fun _ => ?_) (fun z => absurd hx z)
          refine v_go rfl ?_
          refine v_bT rfl (by decide) ?_
          refine v_go rfl ?_
          refine v_ca rfl ?_
          refine c_in (fun _ _ => ?_) (fun z => absurd ((in_iff hg).mpr hy) z)
          refine v_go rfl ?_
          refine v_bT rfl (by decide) ?_
          refine v_go rfl ?_
          refine v_sd rfl hin ?_
          rw [hcl, r4]
          refine v_go rfl ?_
          refine v_bT rfl hl2 ?_
          refine v_go rfl ?_
          refine v_ca rfl ?_
          refine c_failed ?_
          exact v_rt rfl trivial (h _ ((frM.refl _).up (by omega)) (InvM_fl _ hI))
      · have hl2 : ¬ nI (S.2.2.1 2 c) < nI k := nI_nlt (by omega) (by omega)
        refine ⟨1, (S, rd, sh, tr, 0), hz, fun D Q hI h => ?_, fun D Q hI h => ?_⟩
        · have r4 : m_up D 0 9 0 4 c = nI (S.2.2.1 2 c) := (hI.1.2.2.2.1 c hc).1
          refine v_in (tb' := t_X4_as) (rk' := 1) rfl rfl rfl ?_
          refine v_go rfl ?_
          refine v_ca rfl ?_
          refine c_isCrier (eC D hI).1.2.1 hk6 (fun _ => ?_) (fun z => absurd hx z)
          refine v_go rfl ?_
          refine v_bT rfl (by decide) ?_
          refine v_go rfl ?_
          refine v_ca rfl ?_
          refine c_isWithin (n := 2) (by omega) (fun _ => ?_) (fun z => absurd hy z)
          refine v_go rfl ?_
          refine v_bT rfl (by decide) ?_
          refine v_go rfl ?_
          refine v_sd rfl hin ?_
          rw [hcl, r4]
          refine v_go rfl ?_
          refine v_bF rfl hl2 ?_
          exact v_go rfl (v_rt rfl trivial (h _ ((frC.refl _).up (by omega)) (InvC_fl _ hI)))
        · have r4 : D 37 c = nI (S.2.2.1 2 c) := (hI.1.2.2.2.1 c hc).1
          refine v_in (tb' := t_X5_as) (rk' := 1) rfl rfl rfl ?_
          refine v_go rfl ?_
          refine v_ca rfl ?_
          refine c_noCrier hI.1.2.1 hk6 (fun _ => ?_) (fun z => absurd hx z)
          refine v_go rfl ?_
          refine v_bT rfl (by decide) ?_
          refine v_go rfl ?_
          refine v_ca rfl ?_
          refine c_in (fun _ _ => ?_) (fun z => absurd ((in_iff hg).mpr hy) z)
          refine v_go rfl ?_
          refine v_bT rfl (by decide) ?_
          refine v_go rfl ?_
          refine v_sd rfl hin ?_
          rw [hcl, r4]
          refine v_go rfl ?_
          refine v_bF rfl hl2 ?_
          refine v_go rfl ?_
          refine v_ca rfl ?_
          refine c_refused ?_
          exact v_go rfl (v_rt rfl trivial (h _ ((frM.refl _).up (by omega)) (InvM_fl _ hI)))
    · refine ⟨-2, (S, rd, sh, tr, 0), hz, fun D Q hI h => ?_, fun D Q hI h => ?_⟩
      · refine v_in (tb' := t_X4_as) (rk' := 1) rfl rfl rfl ?_
        refine v_go rfl ?_
        refine v_ca rfl ?_
        refine c_isCrier (eC D hI).1.2.1 hk6 (fun _ => ?_) (fun z => absurd hx z)
        refine v_go rfl ?_
        refine v_bT rfl (by decide) ?_
        refine v_go rfl ?_
        refine v_ca rfl ?_
        refine c_isWithin (n := 2) (by omega) (fun z => absurd z hy) (fun _ => ?_)
        refine v_go rfl ?_
        refine v_bF rfl (by decide) ?_
        exact v_go rfl (v_rt rfl trivial (h _ ((frC.refl _).up (by omega)) (InvC_fl _ hI)))
      · refine v_in (tb' := t_X5_as) (rk' := 1) rfl rfl rfl ?_
        refine v_go rfl ?_
        refine v_ca rfl ?_
        refine c_noCrier hI.1.2.1 hk6 (fun _ => ?_) (fun z => absurd hx z)
        refine v_go rfl ?_
        refine v_bT rfl (by decide) ?_
        refine v_go rfl ?_
        refine v_ca rfl ?_
        refine c_in (fun a b => absurd ((in_iff hg).mp ⟨a, b⟩) hy) (fun _ => ?_)
        refine v_go rfl ?_
        refine v_bF rfl (by decide) ?_
        refine v_go rfl ?_
        refine v_ca rfl ?_
        refine c_refused ?_
        exact v_rt rfl trivial (h _ ((frM.refl _).up (by omega)) (InvM_fl _ hI))
  · refine ⟨-1, (S, rd, sh, tr, 0), hz, fun D Q hI h => ?_, fun D Q hI h => ?_⟩
    · refine v_in (tb' := t_X4_as) (rk' := 1) rfl rfl rfl ?_
      refine v_go rfl ?_
      refine v_ca rfl ?_
      refine c_isCrier (eC D hI).1.2.1 hk6 (fun z => absurd z hx) (fun _ => ?_)
      refine v_go rfl ?_
      refine v_bF rfl (by decide) ?_
      exact v_go rfl (v_rt rfl trivial (h _ ((frC.refl _).up (by omega)) (InvC_fl _ hI)))
    · refine v_in (tb' := t_X5_as) (rk' := 1) rfl rfl rfl ?_
      refine v_go rfl ?_
      refine v_ca rfl ?_
      refine c_noCrier hI.1.2.1 hk6 (fun z => absurd z hx) (fun _ => ?_)
      refine v_go rfl ?_
      refine v_bF rfl (by decide) ?_
      refine v_go rfl ?_
      refine v_ca rfl ?_
      refine c_refused ?_
      exact v_rt rfl trivial (h _ ((frM.refl _).up (by omega)) (InvM_fl _ hI))
end
section
/-! ===== print, begin, cough: a shower that changes ===== -/
def setT (S : SH) (i j v : Nat) : SH := (S.1, S.2.1, fun a b => if a = i ∧ b = j then v else S.2.2.1 a b, S.2.2.2)
theorem setT_s {S : SH} {i j v : Nat} : (setT S i j v).2.2.1 i j = v := if_pos ⟨rfl, rfl⟩
theorem setT_n {S : SH} {i j v a b : Nat} (h : ¬ (a = i ∧ b = j)) : (setT S i j v).2.2.1 a b = S.2.2.1 a b := if_neg h
theorem setT_row {D : m_D} {S : SH} {i j v c b x : Nat} (hc : D c b = nI (S.2.2.1 x b)) : (x = i → upd (D c) j (nI v) b = nI ((setT S i j v).2.2.1 x b)) ∧ (x ≠ i → D c b = nI ((setT S i j v).2.2.1 x b)) := by
  refine ⟨fun hx => ?_, fun hx => ?_⟩
  · subst hx
    by_cases e : b = j
    · subst e
      rw [pk_us, setT_s]
    · rw [pk_un e, setT_n (fun z => e z.2)]
      exact hc
  · rw [setT_n (fun z => hx z.1)]
    exact hc
theorem relC_setT {B i j v : Nat} {D : m_D} {S : SH} (hi : i < 5) (h : relC B D S) : relC B (m_up D (B + 1 + i) j (nI v)) (setT S i j v) := by
  obtain ⟨h1, h2, h3, h4, h5⟩ := h
  have eB : m_up D (B + 1 + i) j (nI v) B = D B := m_up_ne (by omega)
  have e6 : m_up D (B + 1 + i) j (nI v) (B + 6) = D (B + 6) := m_up_ne (by omega)
  have row : ∀ x b, x < 5 → D (B + 1 + x) b = nI (S.2.2.1 x b) → m_up D (B + 1 + i) j (nI v) (B + 1 + x) b = nI ((setT S i j v).2.2.1 x b) := by
    intro x b hx hc
    by_cases e : x = i
    · subst e
      rw [m_up_at]
      exact (setT_row hc).1 rfl
    · rw [m_up_ne (by omega)]
      exact (setT_row hc).2 e
  refine ⟨by rw [eB]; exact h1, by rw [eB]; exact h2, fun l hl => ⟨row 0 l (by omega) (h3 l hl).1, row 1 l (by omega) (h3 l hl).2⟩, fun c hc => ⟨row 2 c (by omega) (h4 c hc).1, row 3 c (by omega) (h4 c hc).2.1, row 4 c (by omega) (h4 c hc).2.2⟩, fun t ht => by rw [e6]; exact h5 t ht⟩
theorem relM_setT {i j v : Nat} {D : m_D} {S : SH} (hi : i < 5) (h : relM D S) : relM (m_up D (35 + i) j (nI v)) (setT S i j v) := by
  obtain ⟨h1, h2, h3, h4, h5⟩ := h
  have eB : m_up D (35 + i) j (nI v) 34 = D 34 := m_up_ne (by omega)
  have e6 : m_up D (35 + i) j (nI v) 40 = D 40 := m_up_ne (by omega)
  have row : ∀ x b, x < 5 → D (35 + x) b = nI (S.2.2.1 x b) → m_up D (35 + i) j (nI v) (35 + x) b = nI ((setT S i j v).2.2.1 x b) := by
    intro x b hx hc
    by_cases e : x = i
    · subst e
      rw [m_up_at]
      exact (setT_row hc).1 rfl
    · rw [m_up_ne (by omega)]
      exact (setT_row hc).2 e
  refine ⟨by rw [eB]; exact h1, by rw [eB]; exact h2, fun l hl => ⟨row 0 l (by omega) (h3 l hl).1, row 1 l (by omega) (h3 l hl).2⟩, fun c hc => ⟨row 2 c (by omega) (h4 c hc).1, row 3 c (by omega) (h4 c hc).2.1, row 4 c (by omega) (h4 c hc).2.2⟩, fun t ht => by rw [e6]; exact h5 t ht⟩
/-- which values a row may have -/
def okT (S : SH) (i v : Nat) : Prop := (i = 0 → v ≤ 9) ∧ (i = 1 → v < 4) ∧ (i = 2 → v ≤ 2) ∧ (i = 3 → 1 ≤ v ∧ v ≤ 3) ∧ (i = 4 → v < S.1)
theorem okS_setT {S : SH} {i j v : Nat} (h : okS S) (hv : okT S i v) : okS (setT S i j v) := by
  obtain ⟨h1, h2, h3, h4⟩ := h
  obtain ⟨v0, v1, v2, v3, v4⟩ := hv
  have row : ∀ x b, (setT S i j v).2.2.1 x b = S.2.2.1 x b ∨ (x = i ∧ (setT S i j v).2.2.1 x b = v) := by
    intro x b
    by_cases e : x = i ∧ b = j
    · exact Or.inr ⟨e.1, if_pos e⟩
    · exact Or.inl (if_neg e)
  refine ⟨h1, h2, fun l hl => ⟨?_, ?_⟩, fun c hc => ⟨?_, ?_, ?_, ?_⟩⟩
  · rcases row 0 l with e | ⟨e1, e⟩ <;> rw [e]
    · exact (h3 l hl).1
    · exact v0 e1.symm
  · rcases row 1 l with e | ⟨e1, e⟩ <;> rw [e]
    · exact (h3 l hl).2
    · exact v1 e1.symm
  · rcases row 2 c with e | ⟨e1, e⟩ <;> rw [e]
    · exact (h4 c hc).1
    · exact v2 e1.symm
  · rcases row 3 c with e | ⟨e1, e⟩ <;> rw [e]
    · exact (h4 c hc).2.1
    · exact (v3 e1.symm).1
  · rcases row 3 c with e | ⟨e1, e⟩ <;> rw [e]
    · exact (h4 c hc).2.2.1
    · exact (v3 e1.symm).2
  · rcases row 4 c with e | ⟨e1, e⟩ <;> rw [e]
    · exact (h4 c hc).2.2.2
    · exact v4 e1.symm
theorem InvC_S {S S' : SH} {rd : Nat × (Nat → Nat) × (Nat → Nat)} {sh : Nat → Option (Nat × Nat × (Nat → Int32))} {tr fl : Int32} {D D' : m_D} (h : InvC (S, rd, sh, tr, fl) D) (hr : relC 1 D' S') (hf : ∀ a, a = 0 ∨ (24 ≤ a ∧ a < 34) → D' a = D a) : InvC (S', rd, sh, tr, fl) D' := by
  obtain ⟨h1, h2, h3, h4, h5, h6⟩ := h
  have e0 := hf 0 (by omega)
  exact ⟨hr, by rw [e0]; exact h2, fun i hi => by rw [hf 32 (by omega), hf 33 (by omega)]; exact h3 i hi, fun k hk => shC_keep (hf _ (by omega)) (hf _ (by omega)) (h4 k hk), by rw [e0]; exact h5, by rw [e0]; exact h6⟩
theorem InvM_S {S S' : SH} {rd : Nat × (Nat → Nat) × (Nat → Nat)} {sh : Nat → Option (Nat × Nat × (Nat → Int32))} {tr fl : Int32} {D D' : m_D} (h : InvM (S, rd, sh, tr, fl) D) (hr : relM D' S') (hf : ∀ a, 54 ≤ a ∧ a ≤ 58 → D' a = D a) (hg : ∀ j, j ∈ [0, 26, 33] → D' 34 j = D 34 j) : InvM (S', rd, sh, tr, fl) D' := by
  obtain ⟨h1, h2, h3, h4, h5, h6⟩ := h
  exact ⟨hr, by rw [hg 26 (by simp)]; exact h2, fun i hi => by rw [hf 54 (by omega), hf 55 (by omega)]; exact h3 i hi, fun k hk => shM_keep (hf _ (by omega)) (hf _ (by omega)) (hf _ (by omega)) (h4 k hk), by rw [hg 33 (by simp)]; exact h5, by rw [hg 0 (by simp)]; exact h6⟩
theorem okZ_S {S S' : SH} {rd : Nat × (Nat → Nat) × (Nat → Nat)} {sh : Nat → Option (Nat × Nat × (Nat → Int32))} {tr fl : Int32} (h : okZ (S, rd, sh, tr, fl)) (ho : okS S') (h1 : S'.1 = S.1) (h2 : S'.2.1 = S.2.1) : okZ (S', rd, sh, tr, fl) := ⟨ho, by show S'.1 = 0 ↔ S'.2.1 = 0; rw [h1, h2]; exact h.2.1, h.2.2.1, h.2.2.2.1, h.2.2.2.2⟩
theorem s_print (x y : Int32) : StepI 33 119 [.int x, .int y] := by
  intro L Z hz
  obtain ⟨S, rd, sh, tr, fl⟩ := Z
  have hoS : okS S := hz.1
  have hn6 : S.1 ≤ 6 := hoS.1
  have hg : (9 : Int64).toInt = ((10 : Nat) : Int) - 1 := by decide
  by_cases hx : vp_in x S.1
  · obtain ⟨l, hl, rfl⟩ := vp_in_of hx (by omega)
    have hcl : (nI l).toNatClampNeg = l := nI_clamp (by omega)
    have hin : vp_in (nI l) 6 := vp_in_nI (by omega) (by omega)
    by_cases hy : vp_in y 10
    · obtain ⟨v, hv, rfl⟩ := vp_in_of hy (by omega)
      refine ⟨nI (S.2.2.1 0 l), (setT S 0 l v, rd, sh, tr, fl), okZ_S hz (okS_setT hoS (by unfold okT; omega)) rfl rfl, fun D Q hI h => ?_, fun D Q hI h => ?_⟩
      · have r2 : D 2 l = nI (S.2.2.1 0 l) := (hI.1.2.2.1 l hl).1
        refine v_in (tb' := t_X4_print) (rk' := 1) rfl rfl rfl ?_
        refine v_go rfl ?_
        refine v_ca rfl ?_
        refine c_isLine hI.1.1 hn6 (fun _ => ?_) (fun z => absurd hx z)
        refine v_go rfl ?_
        refine v_bT rfl (by decide) ?_
        refine v_go rfl ?_
        refine v_ca rfl ?_
        refine c_isWithin (n := 9) (by omega) (fun _ => ?_) (fun z => absurd hy z)
        refine v_go rfl ?_
        refine v_bT rfl (by decide) ?_
        refine v_go rfl ?_
        refine v_sd rfl hin ?_
        rw [hcl, r2]
        refine v_go rfl ?_
        refine v_sd rfl hin ?_
        rw [hcl]
        refine v_go rfl ?_
        exact v_rt rfl trivial (h _ ((frC.refl _).up (by omega)) (InvC_S hI (relC_setT (B := 1) (i := 0) (by omega) hI.1) (fun a ha => m_up_ne (by omega))))
      · have r2 : D 35 l = nI (S.2.2.1 0 l) := (hI.1.2.2.1 l hl).1
        refine v_in (tb' := t_X5_print) (rk' := 1) rfl rfl rfl ?_
        refine v_go rfl ?_
        refine v_ca rfl ?_
        refine c_noLine hI.1.1 hn6 (fun _ => ?_) (fun z => absurd hx z)
        refine v_go rfl ?_
        refine v_bT rfl (by decide) ?_
        refine v_go rfl ?_
        refine v_ca rfl ?_
        refine c_in (fun _ _ => ?_) (fun z => absurd ((in_iff hg).mpr hy) z)
        refine v_go rfl ?_
        refine v_bT rfl (by decide) ?_
        refine v_go rfl ?_
        refine v_sd rfl hin ?_
        rw [hcl, r2]
        refine v_go rfl ?_
        refine v_sd rfl hin ?_
        rw [hcl]
        refine v_go rfl ?_
        exact v_rt rfl trivial (h _ ((frM.refl _).up (by omega)) (InvM_S hI (relM_setT (i := 0) (by omega) hI.1) (fun a ha => m_up_ne (by omega)) (fun _ _ => rfl)))
    · refine ⟨-2, (S, rd, sh, tr, fl), hz, fun D Q hI h => ?_, fun D Q hI h => ?_⟩
      · refine v_in (tb' := t_X4_print) (rk' := 1) rfl rfl rfl ?_
        refine v_go rfl ?_
        refine v_ca rfl ?_
        refine c_isLine hI.1.1 hn6 (fun _ => ?_) (fun z => absurd hx z)
        refine v_go rfl ?_
        refine v_bT rfl (by decide) ?_
        refine v_go rfl ?_
        refine v_ca rfl ?_
        refine c_isWithin (n := 9) (by omega) (fun z => absurd z hy) (fun _ => ?_)
        refine v_go rfl ?_
        refine v_bF rfl (by decide) ?_
        exact v_go rfl (v_rt rfl trivial (h _ (frC.refl _) hI))
      · refine v_in (tb' := t_X5_print) (rk' := 1) rfl rfl rfl ?_
        refine v_go rfl ?_
        refine v_ca rfl ?_
        refine c_noLine hI.1.1 hn6 (fun _ => ?_) (fun z => absurd hx z)
        refine v_go rfl ?_
        refine v_bT rfl (by decide) ?_
        refine v_go rfl ?_
        refine v_ca rfl ?_
        refine c_in (fun a b => absurd ((in_iff hg).mp ⟨a, b⟩) hy) (fun _ => ?_)
        refine v_go rfl ?_
        refine v_bF rfl (by decide) ?_
        exact v_go rfl (v_rt rfl trivial (h _ (frM.refl _) hI))
  · refine ⟨-1, (S, rd, sh, tr, fl), hz, fun D Q hI h => ?_, fun D Q hI h => ?_⟩
    · refine v_in (tb' := t_X4_print) (rk' := 1) rfl rfl rfl ?_
      refine v_go rfl ?_
      refine v_ca rfl ?_
      refine c_isLine hI.1.1 hn6 (fun z => absurd z hx) (fun _ => ?_)
      refine v_go rfl ?_
      refine v_bF rfl (by decide) ?_
      exact v_go rfl (v_rt rfl trivial (h _ (frC.refl _) hI))
    · refine v_in (tb' := t_X5_print) (rk' := 1) rfl rfl rfl ?_
      refine v_go rfl ?_
      refine v_ca rfl ?_
      refine c_noLine hI.1.1 hn6 (fun z => absurd z hx) (fun _ => ?_)
      refine v_go rfl ?_
      refine v_bF rfl (by decide) ?_
      exact v_go rfl (v_rt rfl trivial (h _ (frM.refl _) hI))
theorem s_begin (x y : Int32) : StepI 34 120 [.int x, .int y] := by
  intro L Z hz
  obtain ⟨S, rd, sh, tr, fl⟩ := Z
  have hoS : okS S := hz.1
  have hn6 : S.1 ≤ 6 := hoS.1
  have hk3 : S.2.1 ≤ 3 := hoS.2.1
  have hk6 : S.2.1 ≤ 6 := by omega
  by_cases hx : vp_in x S.2.1
  · obtain ⟨c, hc, rfl⟩ := vp_in_of hx (by omega)
    have hcl : (nI c).toNatClampNeg = c := nI_clamp (by omega)
    have hin : vp_in (nI c) 3 := vp_in_nI (by omega) (by omega)
    by_cases hy : vp_in y S.1
    · obtain ⟨v, hv, rfl⟩ := vp_in_of hy (by omega)
      refine ⟨nI (S.2.2.1 4 c), (setT S 4 c v, rd, sh, tr, fl), okZ_S hz (okS_setT hoS (by unfold okT; omega)) rfl rfl, fun D Q hI h => ?_, fun D Q hI h => ?_⟩
      · have r2 : D 6 c = nI (S.2.2.1 4 c) := (hI.1.2.2.2.1 c hc).2.2
        refine v_in (tb' := t_X4_begin) (rk' := 1) rfl rfl rfl ?_
        refine v_go rfl ?_
        refine v_ca rfl ?_
        refine c_isCrier hI.1.2.1 hk6 (fun _ => ?_) (fun z => absurd hx z)
        refine v_go rfl ?_
        refine v_bF rfl (by decide) ?_
        refine v_go rfl ?_
        refine v_ca rfl ?_
        refine c_isLine hI.1.1 hn6 (fun _ => ?_) (fun z => absurd hy z)
        refine v_go rfl ?_
        refine v_bT rfl (by decide) ?_
        refine v_go rfl ?_
        refine v_sd rfl hin ?_
        rw [hcl, r2]
        refine v_go rfl ?_
        refine v_sd rfl hin ?_
        rw [hcl]
        refine v_go rfl ?_
        exact v_rt rfl trivial (h _ ((frC.refl _).up (by omega)) (InvC_S hI (relC_setT (B := 1) (i := 4) (by omega) hI.1) (fun a ha => m_up_ne (by omega))))
      · have r2 : D 39 c = nI (S.2.2.1 4 c) := (hI.1.2.2.2.1 c hc).2.2
        refine v_in (tb' := t_X5_begin) (rk' := 1) rfl rfl rfl ?_
        refine v_go rfl ?_
        refine v_ca rfl ?_
        refine c_noCrier hI.1.2.1 hk6 (fun _ => ?_) (fun z => absurd hx z)
        refine v_go rfl ?_
        refine v_bF rfl (by decide) ?_
        refine v_go rfl ?_
        refine v_ca rfl ?_
        refine c_noLine hI.1.1 hn6 (fun _ => ?_) (fun z => absurd hy z)
        refine v_go rfl ?_
        refine v_bT rfl (by decide) ?_
        refine v_go rfl ?_
        refine v_sd rfl hin ?_
        rw [hcl, r2]
        refine v_go rfl ?_
        refine v_sd rfl hin ?_
        rw [hcl]
        refine v_go rfl ?_
        exact v_rt rfl trivial (h _ ((frM.refl _).up (by omega)) (InvM_S hI (relM_setT (i := 4) (by omega) hI.1) (fun a ha => m_up_ne (by omega)) (fun _ _ => rfl)))
    · refine ⟨-1, (S, rd, sh, tr, fl), hz, fun D Q hI h => ?_, fun D Q hI h => ?_⟩
      · refine v_in (tb' := t_X4_begin) (rk' := 1) rfl rfl rfl ?_
        refine v_go rfl ?_
        refine v_ca rfl ?_
        refine c_isCrier hI.1.2.1 hk6 (fun _ => ?_) (fun z => absurd hx z)
        refine v_go rfl ?_
        refine v_bF rfl (by decide) ?_
        refine v_go rfl ?_
        refine v_ca rfl ?_
        refine c_isLine hI.1.1 hn6 (fun z => absurd z hy) (fun _ => ?_)
        refine v_go rfl ?_
        refine v_bF rfl (by decide) ?_
        exact v_go rfl (v_rt rfl trivial (h _ (frC.refl _) hI))
      · refine v_in (tb' := t_X5_begin) (rk' := 1) rfl rfl rfl ?_
        refine v_go rfl ?_
        refine v_ca rfl ?_
        refine c_noCrier hI.1.2.1 hk6 (fun _ => ?_) (fun z => absurd hx z)
        refine v_go rfl ?_
        refine v_bF rfl (by decide) ?_
        refine v_go rfl ?_
        refine v_ca rfl ?_
        refine c_noLine hI.1.1 hn6 (fun z => absurd z hy) (fun _ => ?_)
        refine v_go rfl ?_
        refine v_bF rfl (by decide) ?_
        exact v_go rfl (v_rt rfl trivial (h _ (frM.refl _) hI))
  · refine ⟨-1, (S, rd, sh, tr, fl), hz, fun D Q hI h => ?_, fun D Q hI h => ?_⟩
    · refine v_in (tb' := t_X4_begin) (rk' := 1) rfl rfl rfl ?_
      refine v_go rfl ?_
      refine v_ca rfl ?_
      refine c_isCrier hI.1.2.1 hk6 (fun z => absurd z hx) (fun _ => ?_)
      refine v_go rfl ?_
      refine v_bT rfl (by decide) ?_
      exact v_go rfl (v_rt rfl trivial (h _ (frC.refl _) hI))
    · refine v_in (tb' := t_X5_begin) (rk' := 1) rfl rfl rfl ?_
      refine v_go rfl ?_
      refine v_ca rfl ?_
      refine c_noCrier hI.1.2.1 hk6 (fun z => absurd z hx) (fun _ => ?_)
      refine v_go rfl ?_
      refine v_bT rfl (by decide) ?_
      exact v_go rfl (v_rt rfl trivial (h _ (frM.refl _) hI))
end
section
/-! ===== cough, comes, wet, ofLine, ofCrier ===== -/
def flipC (S : SH) (f t : Nat) : SH := (S.1, S.2.1, S.2.2.1, fun a b => if a = f ∧ b = t then !S.2.2.2 a b else S.2.2.2 a b)
def b_flip (b : Nat → Bool) (f : Nat) : Nat → Bool := fun a => if a = f then !b a else b a
theorem b_fl4 : ∀ b0 b1 b2 b3 : Bool, ∀ f : Fin 4, nI ((((0 + if b0 then 2 ^ 0 else 0) + if b1 then 2 ^ 1 else 0) + if b2 then 2 ^ 2 else 0) + if b3 then 2 ^ 3 else 0) ^^^ (1 <<< (nI f.val &&& 31)) = nI ((((0 + if (if f.val = 0 then !b0 else b0) then 2 ^ 0 else 0) + if (if f.val = 1 then !b1 else b1) then 2 ^ 1 else 0) + if (if f.val = 2 then !b2 else b2) then 2 ^ 2 else 0) + if (if f.val = 3 then !b3 else b3) then 2 ^ 3 else 0) := by decide +kernel
theorem b_flip4 (b : Nat → Bool) {f : Nat} (hf : f < 4) : nI (b_sum b 4) ^^^ (1 <<< (nI f &&& 31)) = nI (b_sum (b_flip b f) 4) := by
  have h := b_fl4 (b 0) (b 1) (b 2) (b 3) ⟨f, hf⟩
  match f, hf with
  | 0, _ => exact h
  | 1, _ => exact h
  | 2, _ => exact h
  | 3, _ => exact h
theorem b_fl6 : ∀ b0 b1 b2 b3 b4 b5 : Bool, ∀ f : Fin 6, nI ((((((0 + if b0 then 2 ^ 0 else 0) + if b1 then 2 ^ 1 else 0) + if b2 then 2 ^ 2 else 0) + if b3 then 2 ^ 3 else 0) + if b4 then 2 ^ 4 else 0) + if b5 then 2 ^ 5 else 0) ^^^ (1 <<< (nI f.val &&& 31)) = nI ((((((0 + if (if f.val = 0 then !b0 else b0) then 2 ^ 0 else 0) + if (if f.val = 1 then !b1 else b1) then 2 ^ 1 else 0) + if (if f.val = 2 then !b2 else b2) then 2 ^ 2 else 0) + if (if f.val = 3 then !b3 else b3) then 2 ^ 3 else 0) + if (if f.val = 4 then !b4 else b4) then 2 ^ 4 else 0) + if (if f.val = 5 then !b5 else b5) then 2 ^ 5 else 0) := by decide +kernel
theorem b_flip6 (b : Nat → Bool) {f : Nat} (hf : f < 6) : nI (b_sum b 6) ^^^ (1 <<< (nI f &&& 31)) = nI (b_sum (b_flip b f) 6) := by
  have h := b_fl6 (b 0) (b 1) (b 2) (b 3) (b 4) (b 5) ⟨f, hf⟩
  match f, hf with
  | 0, _ => exact h
  | 1, _ => exact h
  | 2, _ => exact h
  | 3, _ => exact h
  | 4, _ => exact h
  | 5, _ => exact h
theorem flipC_t (S : SH) (f t : Nat) : (fun a => (flipC S f t).2.2.2 a t) = b_flip (fun a => S.2.2.2 a t) f := by
  funext a
  show (if a = f ∧ t = t then !S.2.2.2 a t else S.2.2.2 a t) = if a = f then !S.2.2.2 a t else S.2.2.2 a t
  by_cases e : a = f
  · rw [if_pos ⟨e, rfl⟩, if_pos e]
  · rw [if_neg (fun z => e z.1), if_neg e]
theorem flipC_f (S : SH) (f t : Nat) : (fun b => (flipC S f t).2.2.2 f b) = b_flip (fun b => S.2.2.2 f b) t := by
  funext b
  show (if f = f ∧ b = t then !S.2.2.2 f b else S.2.2.2 f b) = if b = t then !S.2.2.2 f b else S.2.2.2 f b
  by_cases e : b = t
  · rw [if_pos ⟨rfl, e⟩, if_pos e]
  · rw [if_neg (fun z => e z.2), if_neg e]
theorem flipC_o (S : SH) {f t b : Nat} (h : b ≠ t) : (fun a => (flipC S f t).2.2.2 a b) = fun a => S.2.2.2 a b := by
  funext a
  exact if_neg (fun z => h z.2)
theorem flipC_p (S : SH) {f t a : Nat} (h : a ≠ f) : (fun b => (flipC S f t).2.2.2 a b) = fun b => S.2.2.2 a b := by
  funext b
  exact if_neg (fun z => h z.1)
theorem relC_flip {B f t : Nat} {D : m_D} {S : SH} (hf : f < 4) (ht : t < 6) (h : relC B D S) : relC B (m_up D (B + 6) t (D (B + 6) t ^^^ (1 <<< (nI f &&& 31)))) (flipC S f t) := by
  obtain ⟨h1, h2, h3, h4, h5⟩ := h
  have e : ∀ i, i < 6 → m_up D (B + 6) t (D (B + 6) t ^^^ (1 <<< (nI f &&& 31))) (B + i) = D (B + i) := fun i hi => m_up_ne (by omega)
  have e0 := e 0 (by omega)
  refine ⟨by rw [show B = B + 0 from rfl, e0]; exact h1, by rw [show B = B + 0 from rfl, e0]; exact h2, fun l hl => ?_, fun c hc => ?_, fun b hb => ?_⟩
  · rw [e 1 (by omega), e 2 (by omega)]
    exact h3 l hl
  · rw [e 3 (by omega), e 4 (by omega), e 5 (by omega)]
    exact h4 c hc
  · by_cases eb : b = t
    · subst eb
      rw [m_up_s, flipC_t, h5 b hb, b_flip4 _ hf]
    · rw [m_up_n eb, flipC_o S eb]
      exact h5 b hb
theorem relM_flip {f t : Nat} {D : m_D} {S : SH} (hf : f < 4) (ht : t < 6) (h : relM D S) : relM (m_up D 40 f (D 40 f ^^^ (1 <<< (nI t &&& 31)))) (flipC S f t) := by
  obtain ⟨h1, h2, h3, h4, h5⟩ := h
  refine ⟨h1, h2, h3, h4, fun a ha => ?_⟩
  by_cases ea : a = f
  · subst ea
    rw [m_up_s, flipC_f, h5 a ha, b_flip6 _ ht]
  · rw [m_up_n ea, flipC_p S ea]
    exact h5 a ha
theorem c_turn {L d B f t : Nat} {D : m_D} {Q : m_K} (hB : B = 1 ∨ B = 8) (ht : t < 6) (h : Q none (m_up D (B + 6) t (D (B + 6) t ^^^ (1 <<< (nI f &&& 31))))) : m_call L (d + 1) 16 [.ref B, .int (nI f), .int (nI t)] D Q := by
  have hcl : (nI t).toNatClampNeg = t := nI_clamp (by omega)
  have hin : vp_in (nI t) 6 := vp_in_nI (by omega) (by omega)
  rcases hB with rfl | rfl
  all_goals
    refine v_in (tb' := t_X2_turnCough) (rk' := 0) rfl rfl rfl ?_
    refine v_go rfl ?_
    refine v_sd rfl hin ?_
    rw [hcl]
    refine v_go rfl ?_
    refine v_sd rfl hin ?_
    rw [hcl]
    exact v_rt rfl trivial h
theorem c_coughed {L d f t : Nat} {D : m_D} {S : SH} {Q : m_K} (hr : relM D S) (hf : f < 4) (ht : t < 6) (h : Q (some (.int (if (flipC S f t).2.2.2 f t then 1 else 0))) (m_up D 40 f (D 40 f ^^^ (1 <<< (nI t &&& 31))))) : m_call L (d + 1) 121 [.ref 34, .int (nI f), .int (nI t)] D Q := by
  have hcl : (nI f).toNatClampNeg = f := nI_clamp (by omega)
  have hin : vp_in (nI f) 4 := vp_in_nI (by omega) (by omega)
  have hb := (relM_flip hf ht hr).2.2.2.2 f hf
  refine v_in (tb' := t_X5_coughed) (rk' := 1) rfl rfl rfl ?_
  refine v_go rfl ?_
  refine v_sd rfl hin ?_
  rw [hcl]
  refine v_go rfl ?_
  refine v_sd rfl hin ?_
  rw [hcl]
  refine v_go rfl ?_
  refine v_sd rfl hin ?_
  rw [hcl, hb]
  refine v_go rfl ?_
  rw [b_bit6 _ ht]
  exact v_rt rfl trivial h
theorem okS_flip {S : SH} {f t : Nat} (h : okS S) : okS (flipC S f t) := h
/-- refusals of calls on a field, the reference's order -/
theorem s_cough (x y : Int32) : StepI 35 122 [.int x, .int y] := by
  intro L Z hz
  obtain ⟨S, rd, sh, tr, fl⟩ := Z
  have hoS : okS S := hz.1
  have hn6 : S.1 ≤ 6 := hoS.1
  have hnk : S.1 = 0 ↔ S.2.1 = 0 := hz.2.1
  have hk3 : S.2.1 ≤ 3 := hoS.2.1
  by_cases hx : vp_in x 4
  · by_cases hy : vp_in y 6
    · by_cases hn : S.1 = 0
      · have hk : S.2.1 = 0 := hnk.mp hn
        refine ⟨-3, (S, rd, sh, tr, fl), hz, fun D Q hI h => ?_, fun D Q hI h => ?_⟩
        · refine v_in (tb' := t_X4_cough) (rk' := 1) rfl rfl rfl ?_
          refine v_go rfl ?_
          refine v_ca rfl ?_
          refine c_isHour (fun _ => ?_) (fun z => absurd hy z)
          refine v_ca rfl ?_
          refine c_refusalOf hI.1.1 hn6 (fun z => absurd hx z) (fun _ z => absurd z (by decide)) (fun _ _ _ => ?_) (fun _ _ z => absurd hn z)
          refine v_go rfl ?_
          refine v_bF rfl (by decide) ?_
          exact v_go rfl (v_rt rfl trivial (h _ (frC.refl _) hI))
        · have r2 : D 34 2 = nI 0 := by rw [← hk]; exact hI.1.2.1
          refine v_in (tb' := t_X5_cough) (rk' := 1) rfl rfl rfl ?_
          refine v_go rfl ?_
          refine v_ca rfl ?_
          refine c_noField (fun _ => ?_) (fun z => absurd hx z)
          refine v_go rfl ?_
          refine v_bT rfl (by decide) ?_
          refine v_go rfl ?_
          refine v_ca rfl ?_
          refine c_isHourM (fun _ => ?_) (fun z => absurd hy z)
          refine v_go rfl ?_
          refine v_bT rfl (by decide) ?_
          refine v_go rfl ?_
          rw [r2]
          refine v_bF rfl (fun z => z rfl) ?_
          exact v_go rfl (v_rt rfl trivial (h _ (frM.refl _) hI))
      · have hk : S.2.1 ≠ 0 := fun z => hn (hnk.mpr z)
        obtain ⟨f, hf, rfl⟩ := vp_in_of hx (by omega)
        obtain ⟨t, ht, rfl⟩ := vp_in_of hy (by omega)
        refine ⟨if (flipC S f t).2.2.2 f t then 1 else 0, (flipC S f t, rd, sh, tr, fl), okZ_S hz (okS_flip hoS) rfl rfl, fun D Q hI h => ?_, fun D Q hI h => ?_⟩
        · refine v_in (tb' := t_X4_cough) (rk' := 1) rfl rfl rfl ?_
          refine v_go rfl ?_
          refine v_ca rfl ?_
          refine c_isHour (fun _ => ?_) (fun z => absurd hy z)
          refine v_ca rfl ?_
          refine c_refusalOf hI.1.1 hn6 (fun z => absurd hx z) (fun _ z => absurd z (by decide)) (fun _ _ z => absurd z hn) (fun _ _ _ => ?_)
          refine v_go rfl ?_
          refine v_bT rfl rfl ?_
          refine v_go rfl ?_
          refine v_ca rfl ?_
          refine c_turn (B := 1) (Or.inl rfl) ht ?_
          have hr2 := relC_flip (B := 1) hf ht hI.1
          have hI2 := InvC_S (S' := flipC S f t) hI hr2 (fun a ha => m_up_ne (by omega))
          have hfr2 : frC D (m_up D (1 + 6) t (D (1 + 6) t ^^^ (1 <<< (nI f &&& 31)))) := (frC.refl _).up (by omega)
          generalize m_up D (1 + 6) t (D (1 + 6) t ^^^ (1 <<< (nI f &&& 31))) = D2 at hr2 hI2 hfr2
          refine v_go rfl ?_
          refine v_ca rfl ?_
          refine c_coughs (B := 1) (Or.inl rfl) hr2 hf ht (fun hg => ?_) (fun hg => ?_)
          · rw [hg] at h
            refine v_go rfl ?_
            refine v_bF rfl (by decide) ?_
            exact v_go rfl (v_rt rfl trivial (h _ hfr2 hI2))
          · rw [hg] at h
            refine v_go rfl ?_
            refine v_bT rfl rfl ?_
            exact v_go rfl (v_rt rfl trivial (h _ hfr2 hI2))
        · have r2 : D 34 2 = nI S.2.1 := hI.1.2.1
          refine v_in (tb' := t_X5_cough) (rk' := 1) rfl rfl rfl ?_
          refine v_go rfl ?_
          refine v_ca rfl ?_
          refine c_noField (fun _ => ?_) (fun z => absurd hx z)
          refine v_go rfl ?_
          refine v_bT rfl (by decide) ?_
          refine v_go rfl ?_
          refine v_ca rfl ?_
          refine c_isHourM (fun _ => ?_) (fun z => absurd hy z)
          refine v_go rfl ?_
          refine v_bT rfl (by decide) ?_
          refine v_go rfl ?_
          rw [r2]
          refine v_bT rfl (nI_ne0 (by omega) (by omega)) ?_
          refine v_go rfl ?_
          refine v_ca rfl ?_
          refine c_coughed hI.1 hf ht ?_
          exact v_rt rfl trivial (h _ ((frM.refl _).up (by omega)) (InvM_S hI (relM_flip hf ht hI.1) (fun a ha => m_up_ne (by omega)) (fun _ _ => rfl)))
    · refine ⟨-2, (S, rd, sh, tr, fl), hz, fun D Q hI h => ?_, fun D Q hI h => ?_⟩
      · refine v_in (tb' := t_X4_cough) (rk' := 1) rfl rfl rfl ?_
        refine v_go rfl ?_
        refine v_ca rfl ?_
        refine c_isHour (fun z => absurd z hy) (fun _ => ?_)
        refine v_ca rfl ?_
        refine c_refusalOf hI.1.1 hn6 (fun z => absurd hx z) (fun _ _ => ?_) (fun _ z => absurd rfl z) (fun _ z => absurd rfl z)
        refine v_go rfl ?_
        refine v_bF rfl (by decide) ?_
        exact v_go rfl (v_rt rfl trivial (h _ (frC.refl _) hI))
      · refine v_in (tb' := t_X5_cough) (rk' := 1) rfl rfl rfl ?_
        refine v_go rfl ?_
        refine v_ca rfl ?_
        refine c_noField (fun _ => ?_) (fun z => absurd hx z)
        refine v_go rfl ?_
        refine v_bT rfl (by decide) ?_
        refine v_go rfl ?_
        refine v_ca rfl ?_
        refine c_isHourM (fun z => absurd z hy) (fun _ => ?_)
        refine v_go rfl ?_
        refine v_bF rfl (by decide) ?_
        exact v_go rfl (v_rt rfl trivial (h _ (frM.refl _) hI))
  · refine ⟨-1, (S, rd, sh, tr, fl), hz, fun D Q hI h => ?_, fun D Q hI h => ?_⟩
    · refine v_in (tb' := t_X4_cough) (rk' := 1) rfl rfl rfl ?_
      refine v_go rfl ?_
      refine v_ca rfl ?_
      refine c_isHour (fun hy => ?_) (fun hy => ?_)
      all_goals
        refine v_ca rfl ?_
        refine c_refusalOf hI.1.1 hn6 (fun _ => ?_) (fun z => absurd z hx) (fun z => absurd z hx) (fun z => absurd z hx)
        refine v_go rfl ?_
        refine v_bF rfl (by decide) ?_
        exact v_go rfl (v_rt rfl trivial (h _ (frC.refl _) hI))
    · refine v_in (tb' := t_X5_cough) (rk' := 1) rfl rfl rfl ?_
      refine v_go rfl ?_
      refine v_ca rfl ?_
      refine c_noField (fun z => absurd z hx) (fun _ => ?_)
      refine v_go rfl ?_
      refine v_bF rfl (by decide) ?_
      exact v_go rfl (v_rt rfl trivial (h _ (frM.refl _) hI))
end
section
/-! ===== comes, wet, ofLine, ofCrier ===== -/
theorem InvC_F {Z : ZS} {D D' : m_D} (h : InvC Z D) (hf : m_fr z_F D D') : InvC Z D' := InvC_keep h (fun a ha => hf a (by
  simp only [z_F, List.mem_cons, List.not_mem_nil, or_false]
  omega))
theorem InvM_R {Z : ZS} {D D' : m_D} (h : InvM Z D) (hf : m_fM z_R [22] D D') : InvM Z D' := InvM_keep h (fun a ha => hf.1 a (by
  simp only [z_R, List.mem_cons, List.not_mem_nil, or_false]
  omega) (by omega)) (fun j hj => hf.2 j (by
  simp only [List.mem_cons, List.not_mem_nil, or_false] at hj ⊢
  omega))
theorem frC_F {D D' : m_D} (hf : m_fr z_F D D') : frC D D' := frC.of hf (by decide)
theorem frM_R {D D' : m_D} (hf : m_fM z_R [22] D D') : frM D D' := frM.of hf (by decide)
theorem s_comes (x y : Int32) : StepI 36 123 [.int x, .int y] := by
  intro L Z hz
  obtain ⟨S, rd, sh, tr, fl⟩ := Z
  have hoS : okS S := hz.1
  have hn6 : S.1 ≤ 6 := hoS.1
  have hnk : S.1 = 0 ↔ S.2.1 = 0 := hz.2.1
  have hk3 : S.2.1 ≤ 3 := hoS.2.1
  by_cases hx : vp_in x 4
  · by_cases hy : vp_in y 6
    · by_cases hn : S.1 = 0
      · have hk : S.2.1 = 0 := hnk.mp hn
        refine ⟨-3, (S, rd, sh, tr, fl), hz, fun D Q hI h => ?_, fun D Q hI h => ?_⟩
        · refine v_in (tb' := t_X4_comes) (rk' := 1) rfl rfl rfl ?_
          refine v_go rfl ?_
          refine v_ca rfl ?_
          refine c_isHour (fun _ => ?_) (fun z => absurd hy z)
          refine v_ca rfl ?_
          refine c_refusalOf hI.1.1 hn6 (fun z => absurd hx z) (fun _ z => absurd z (by decide)) (fun _ _ _ => ?_) (fun _ _ z => absurd hn z)
          refine v_go rfl ?_
          refine v_bF rfl (by decide) ?_
          exact v_go rfl (v_rt rfl trivial (h _ (frC.refl _) hI))
        · have r2 : D 34 2 = nI 0 := by rw [← hk]; exact hI.1.2.1
          refine v_in (tb' := t_X5_comes) (rk' := 1) rfl rfl rfl ?_
          refine v_go rfl ?_
          refine v_ca rfl ?_
          refine c_noField (fun _ => ?_) (fun z => absurd hx z)
          refine v_go rfl ?_
          refine v_bT rfl (by decide) ?_
          refine v_go rfl ?_
          refine v_ca rfl ?_
          refine c_isHourM (fun _ => ?_) (fun z => absurd hy z)
          refine v_go rfl ?_
          refine v_bT rfl (by decide) ?_
          refine v_go rfl ?_
          rw [r2]
          refine v_bF rfl (fun z => z rfl) ?_
          exact v_go rfl (v_rt rfl trivial (h _ (frM.refl _) hI))
      · have hk : S.2.1 ≠ 0 := fun z => hn (hnk.mpr z)
        obtain ⟨f, hf, rfl⟩ := vp_in_of hx (by omega)
        obtain ⟨t, ht, rfl⟩ := vp_in_of hy (by omega)
        have ei : nI f * 6 + nI t = nI (f * 6 + t) := by rw [show (6 : Int32) = nI 6 from rfl, pk_mul, nI_add]
        have ej : 6 * nI f + nI t = nI (f * 6 + t) := by rw [show (6 : Int32) = nI 6 from rfl, pk_mul, nI_add, Nat.mul_comm]
        have hci : (nI (f * 6 + t)).toNatClampNeg = f * 6 + t := nI_clamp (by omega)
        have hini : vp_in (nI (f * 6 + t)) 24 := vp_in_nI (by omega) (by omega)
        refine ⟨nI (p_came S f t S.1), (S, rd, sh, tr, fl), hz, fun D Q hI h => ?_, fun D Q hI h => ?_⟩
        · refine v_in (tb' := t_X4_comes) (rk' := 1) rfl rfl rfl ?_
          refine v_go rfl ?_
          refine v_ca rfl ?_
          refine c_isHour (fun _ => ?_) (fun z => absurd hy z)
          refine v_ca rfl ?_
          refine c_refusalOf hI.1.1 hn6 (fun z => absurd hx z) (fun _ z => absurd z (by decide)) (fun _ _ z => absurd z hn) (fun _ _ _ => ?_)
          refine v_go rfl ?_
          refine v_bT rfl rfl ?_
          refine v_go rfl ?_
          refine v_ca rfl ?_
          refine c_workOut (Or.inl rfl) hI.1 hoS (fun D2 hf2 hF => ?_)
          refine v_go rfl ?_
          rw [ei]
          refine v_sd rfl hini ?_
          rw [hci, hF.2.1 f t hf ht]
          exact v_rt rfl trivial (h _ (frC_F hf2) (InvC_F hI hf2))
        · have r2 : D 34 2 = nI S.2.1 := hI.1.2.1
          refine v_in (tb' := t_X5_comes) (rk' := 1) rfl rfl rfl ?_
          refine v_go rfl ?_
          refine v_ca rfl ?_
          refine c_noField (fun _ => ?_) (fun z => absurd hx z)
          refine v_go rfl ?_
          refine v_bT rfl (by decide) ?_
          refine v_go rfl ?_
          refine v_ca rfl ?_
          refine c_isHourM (fun _ => ?_) (fun z => absurd hy z)
          refine v_go rfl ?_
          refine v_bT rfl (by decide) ?_
          refine v_go rfl ?_
          rw [r2]
          refine v_bT rfl (nI_ne0 (by omega) (by omega)) ?_
          refine v_go rfl ?_
          refine v_ca rfl ?_
          refine c_rains hI.1 hoS (fun D2 hf2 hF => ?_)
          refine v_go rfl ?_
          rw [ej]
          refine v_sd rfl hini ?_
          rw [hci, hF.2.1 f t hf ht]
          exact v_rt rfl trivial (h _ (frM_R hf2) (InvM_R hI hf2))
    · refine ⟨-2, (S, rd, sh, tr, fl), hz, fun D Q hI h => ?_, fun D Q hI h => ?_⟩
      · refine v_in (tb' := t_X4_comes) (rk' := 1) rfl rfl rfl ?_
        refine v_go rfl ?_
        refine v_ca rfl ?_
        refine c_isHour (fun z => absurd z hy) (fun _ => ?_)
        refine v_ca rfl ?_
        refine c_refusalOf hI.1.1 hn6 (fun z => absurd hx z) (fun _ _ => ?_) (fun _ z => absurd rfl z) (fun _ z => absurd rfl z)
        refine v_go rfl ?_
        refine v_bF rfl (by decide) ?_
        exact v_go rfl (v_rt rfl trivial (h _ (frC.refl _) hI))
      · refine v_in (tb' := t_X5_comes) (rk' := 1) rfl rfl rfl ?_
        refine v_go rfl ?_
        refine v_ca rfl ?_
        refine c_noField (fun _ => ?_) (fun z => absurd hx z)
        refine v_go rfl ?_
        refine v_bT rfl (by decide) ?_
        refine v_go rfl ?_
        refine v_ca rfl ?_
        refine c_isHourM (fun z => absurd z hy) (fun _ => ?_)
        refine v_go rfl ?_
        refine v_bF rfl (by decide) ?_
        exact v_go rfl (v_rt rfl trivial (h _ (frM.refl _) hI))
  · refine ⟨-1, (S, rd, sh, tr, fl), hz, fun D Q hI h => ?_, fun D Q hI h => ?_⟩
    · refine v_in (tb' := t_X4_comes) (rk' := 1) rfl rfl rfl ?_
      refine v_go rfl ?_
      refine v_ca rfl ?_
      refine c_isHour (fun hy => ?_) (fun hy => ?_)
      all_goals
        refine v_ca rfl ?_
        refine c_refusalOf hI.1.1 hn6 (fun _ => ?_) (fun z => absurd z hx) (fun z => absurd z hx) (fun z => absurd z hx)
        refine v_go rfl ?_
        refine v_bF rfl (by decide) ?_
        exact v_go rfl (v_rt rfl trivial (h _ (frC.refl _) hI))
    · refine v_in (tb' := t_X5_comes) (rk' := 1) rfl rfl rfl ?_
      refine v_go rfl ?_
      refine v_ca rfl ?_
      refine c_noField (fun z => absurd z hx) (fun _ => ?_)
      refine v_go rfl ?_
      refine v_bF rfl (by decide) ?_
      exact v_go rfl (v_rt rfl trivial (h _ (frM.refl _) hI))
/-- how wet a field is now, in the reference -/
theorem c_wetNow {L d f : Nat} {S : SH} {D : m_D} {Q : m_K} (hr : relM D S) (ho : okS S) (hf : f < 4) (h : ∀ D', m_fM z_R [22] D D' → relR S S.1 D' → Q (some (.int (nI (p_wet S f S.1)))) D') : m_call L (d + 4) 124 [.ref 34, .int (nI f)] D Q := by
  have hcl : (nI f).toNatClampNeg = f := nI_clamp (by omega)
  have hin : vp_in (nI f) 4 := vp_in_nI (by omega) (by omega)
  refine v_in (tb' := t_X5_wetNow) (rk' := 1) rfl rfl rfl ?_
  refine v_go rfl ?_
  refine v_ca rfl ?_
  refine c_rains hr ho (fun D2 hf2 hF => ?_)
  refine v_go rfl ?_
  refine v_sd rfl hin ?_
  rw [hcl, hF.2.2.1 f hf]
  exact v_rt rfl trivial (h D2 hf2 hF)
theorem s_wet (x : Int32) : StepI 37 125 [.int x] := by
  intro L Z hz
  obtain ⟨S, rd, sh, tr, fl⟩ := Z
  have hoS : okS S := hz.1
  have hn6 : S.1 ≤ 6 := hoS.1
  have hnk : S.1 = 0 ↔ S.2.1 = 0 := hz.2.1
  have hk3 : S.2.1 ≤ 3 := hoS.2.1
  by_cases hx : vp_in x 4
  · by_cases hn : S.1 = 0
    · have hk : S.2.1 = 0 := hnk.mp hn
      refine ⟨-3, (S, rd, sh, tr, fl), hz, fun D Q hI h => ?_, fun D Q hI h => ?_⟩
      · refine v_in (tb' := t_X4_wet) (rk' := 1) rfl rfl rfl ?_
        refine v_go rfl ?_
        refine v_ca rfl ?_
        refine c_refusalOf hI.1.1 hn6 (fun z => absurd hx z) (fun _ z => absurd z (by decide)) (fun _ _ _ => ?_) (fun _ _ z => absurd hn z)
        refine v_go rfl ?_
        refine v_bF rfl (by decide) ?_
        exact v_go rfl (v_rt rfl trivial (h _ (frC.refl _) hI))
      · have r2 : D 34 2 = nI 0 := by rw [← hk]; exact hI.1.2.1
        refine v_in (tb' := t_X5_wet) (rk' := 1) rfl rfl rfl ?_
        refine v_go rfl ?_
        refine v_ca rfl ?_
        refine c_noField (fun _ => ?_) (fun z => absurd hx z)
        refine v_go rfl ?_
        refine v_bT rfl (by decide) ?_
        refine v_go rfl ?_
        rw [r2]
        refine v_bF rfl (fun z => z rfl) ?_
        exact v_go rfl (v_rt rfl trivial (h _ (frM.refl _) hI))
    · have hk : S.2.1 ≠ 0 := fun z => hn (hnk.mpr z)
      obtain ⟨f, hf, rfl⟩ := vp_in_of hx (by omega)
      have hcl : (nI f).toNatClampNeg = f := nI_clamp (by omega)
      refine ⟨nI (p_wet S f S.1), (S, rd, sh, tr, fl), hz, fun D Q hI h => ?_, fun D Q hI h => ?_⟩
      · refine v_in (tb' := t_X4_wet) (rk' := 1) rfl rfl rfl ?_
        refine v_go rfl ?_
        refine v_ca rfl ?_
        refine c_refusalOf hI.1.1 hn6 (fun z => absurd hx z) (fun _ z => absurd z (by decide)) (fun _ _ z => absurd z hn) (fun _ _ _ => ?_)
        refine v_go rfl ?_
        refine v_bT rfl rfl ?_
        refine v_go rfl ?_
        refine v_ca rfl ?_
        refine c_workOut (Or.inl rfl) hI.1 hoS (fun D2 hf2 hF => ?_)
        refine v_go rfl ?_
        refine v_sd rfl hx ?_
        rw [hcl, hF.2.2.1 f hf]
        exact v_rt rfl trivial (h _ (frC_F hf2) (InvC_F hI hf2))
      · have r2 : D 34 2 = nI S.2.1 := hI.1.2.1
        refine v_in (tb' := t_X5_wet) (rk' := 1) rfl rfl rfl ?_
        refine v_go rfl ?_
        refine v_ca rfl ?_
        refine c_noField (fun _ => ?_) (fun z => absurd hx z)
        refine v_go rfl ?_
        refine v_bT rfl (by decide) ?_
        refine v_go rfl ?_
        rw [r2]
        refine v_bT rfl (nI_ne0 (by omega) (by omega)) ?_
        refine v_go rfl ?_
        refine v_ca rfl ?_
        refine c_wetNow hI.1 hoS hf (fun D2 hf2 hF => ?_)
        exact v_rt rfl trivial (h _ (frM_R hf2) (InvM_R hI hf2))
  · refine ⟨-1, (S, rd, sh, tr, fl), hz, fun D Q hI h => ?_, fun D Q hI h => ?_⟩
    · refine v_in (tb' := t_X4_wet) (rk' := 1) rfl rfl rfl ?_
      refine v_go rfl ?_
      refine v_ca rfl ?_
      refine c_refusalOf hI.1.1 hn6 (fun _ => ?_) (fun z => absurd z hx) (fun z => absurd z hx) (fun z => absurd z hx)
      refine v_go rfl ?_
      refine v_bF rfl (by decide) ?_
      exact v_go rfl (v_rt rfl trivial (h _ (frC.refl _) hI))
    · refine v_in (tb' := t_X5_wet) (rk' := 1) rfl rfl rfl ?_
      refine v_go rfl ?_
      refine v_ca rfl ?_
      refine c_noField (fun z => absurd z hx) (fun _ => ?_)
      refine v_go rfl ?_
      refine v_bF rfl (by decide) ?_
      exact v_go rfl (v_rt rfl trivial (h _ (frM.refl _) hI))
def sp_line (S : SH) (l : Nat) (y : Int32) : Int32 := if y = 0 then nI (S.2.2.1 0 l) else if y = 1 then nI (S.2.2.1 1 l) else if y = 2 then oI (p_hour S l) else if y = 3 then oI (p_by S l) else if y = 4 then nI (p_amt S l) else -2
theorem s_ofLine (x y : Int32) : StepI 31 117 [.int x, .int y] := by
  intro L Z hz
  obtain ⟨S, rd, sh, tr, fl⟩ := Z
  have hoS : okS S := hz.1
  have hn6 : S.1 ≤ 6 := hoS.1
  by_cases hx : vp_in x S.1
  · obtain ⟨l, hl, rfl⟩ := vp_in_of hx (by omega)
    have hcl : (nI l).toNatClampNeg = l := nI_clamp (by omega)
    have hin : vp_in (nI l) 6 := vp_in_nI (by omega) (by omega)
    refine ⟨sp_line S l y, (S, rd, sh, tr, fl), hz, fun D Q hI h => ?_, fun D Q hI h => ?_⟩
    · refine v_in (tb' := t_X4_ofLine) (rk' := 1) rfl rfl rfl ?_
      refine v_go rfl ?_
      refine v_ca rfl ?_
      refine c_isLine hI.1.1 hn6 (fun _ => ?_) (fun z => absurd hx z)
      refine v_go rfl ?_
      refine v_bT rfl (by decide) ?_
      refine v_go rfl ?_
      refine v_ca rfl ?_
      refine c_workOut (Or.inl rfl) hI.1 hoS (fun D2 hf2 hF => ?_)
      have hI2 := InvC_F hI hf2
      have h := h D2 (frC_F hf2) hI2
      obtain ⟨q1, q2, q3⟩ := hF.1 l hl
      obtain ⟨q4, q5⟩ := hI2.1.2.2.1 l hl
      unfold sp_line at h
      refine v_go rfl ?_
      refine v_sw rfl ?_
      refine br_c (fun e => ?_) (fun e0 => ?_)
      · rw [if_pos e] at h
        refine v_go rfl (v_sd rfl hin ?_)
        rw [hcl]
        have q4 : D2 2 l = nI (S.2.2.1 0 l) := q4
        rw [q4]
        exact v_rt rfl trivial h
      · rw [if_neg e0] at h
        refine br_c (fun e => ?_) (fun e1 => ?_)
        · rw [if_pos e] at h
          refine v_go rfl (v_sd rfl hin ?_)
          rw [hcl]
          have q5 : D2 3 l = nI (S.2.2.1 1 l) := q5
          rw [q5]
          exact v_rt rfl trivial h
        · rw [if_neg e1] at h
          refine br_c (fun e => ?_) (fun e2 => ?_)
          · rw [if_pos e] at h
            refine v_go rfl (v_sd rfl hin ?_)
            rw [hcl, q1]
            exact v_rt rfl trivial h
          · rw [if_neg e2] at h
            refine br_c (fun e => ?_) (fun e3 => ?_)
            · rw [if_pos e] at h
              refine v_go rfl (v_sd rfl hin ?_)
              rw [hcl, q2]
              exact v_rt rfl trivial h
            · rw [if_neg e3] at h
              refine br_c (fun e => ?_) (fun e4 => ?_)
              · rw [if_pos e] at h
                refine v_go rfl (v_sd rfl hin ?_)
                rw [hcl, q3]
                exact v_rt rfl trivial h
              · rw [if_neg e4] at h
                exact v_go rfl (v_rt rfl trivial h)
    · refine v_in (tb' := t_X5_ofLine) (rk' := 1) rfl rfl rfl ?_
      refine v_go rfl ?_
      refine v_ca rfl ?_
      refine c_noLine hI.1.1 hn6 (fun _ => ?_) (fun z => absurd hx z)
      refine v_go rfl ?_
      refine v_bT rfl (by decide) ?_
      refine v_go rfl ?_
      refine v_ca rfl ?_
      refine c_rains hI.1 hoS (fun D2 hf2 hF => ?_)
      have hI2 := InvM_R hI hf2
      have h := h D2 (frM_R hf2) hI2
      obtain ⟨q1, q2, q3⟩ := hF.1 l hl
      obtain ⟨q4, q5⟩ := hI2.1.2.2.1 l hl
      unfold sp_line at h
      refine v_go rfl ?_
      refine v_sw rfl ?_
      refine br_c (fun e => ?_) (fun e0 => ?_)
      · rw [if_pos e] at h
        refine v_go rfl (v_sd rfl hin ?_)
        rw [hcl]
        have q4 : D2 35 l = nI (S.2.2.1 0 l) := q4
        rw [q4]
        exact v_rt rfl trivial h
      · rw [if_neg e0] at h
        refine br_c (fun e => ?_) (fun e1 => ?_)
        · rw [if_pos e] at h
          refine v_go rfl (v_sd rfl hin ?_)
          rw [hcl]
          have q5 : D2 36 l = nI (S.2.2.1 1 l) := q5
          rw [q5]
          exact v_rt rfl trivial h
        · rw [if_neg e1] at h
          refine br_c (fun e => ?_) (fun e2 => ?_)
          · rw [if_pos e] at h
            refine v_go rfl (v_sd rfl hin ?_)
            rw [hcl, q1]
            exact v_rt rfl trivial h
          · rw [if_neg e2] at h
            refine br_c (fun e => ?_) (fun e3 => ?_)
            · rw [if_pos e] at h
              refine v_go rfl (v_sd rfl hin ?_)
              rw [hcl, q2]
              exact v_rt rfl trivial h
            · rw [if_neg e3] at h
              refine br_c (fun e => ?_) (fun e4 => ?_)
              · rw [if_pos e] at h
                refine v_go rfl (v_sd rfl hin ?_)
                rw [hcl, q3]
                exact v_rt rfl trivial h
              · rw [if_neg e4] at h
                exact v_go rfl (v_rt rfl trivial h)
  · refine ⟨-1, (S, rd, sh, tr, fl), hz, fun D Q hI h => ?_, fun D Q hI h => ?_⟩
    · refine v_in (tb' := t_X4_ofLine) (rk' := 1) rfl rfl rfl ?_
      refine v_go rfl ?_
      refine v_ca rfl ?_
      refine c_isLine hI.1.1 hn6 (fun z => absurd z hx) (fun _ => ?_)
      refine v_go rfl ?_
      refine v_bF rfl (by decide) ?_
      exact v_go rfl (v_rt rfl trivial (h _ (frC.refl _) hI))
    · refine v_in (tb' := t_X5_ofLine) (rk' := 1) rfl rfl rfl ?_
      refine v_go rfl ?_
      refine v_ca rfl ?_
      refine c_noLine hI.1.1 hn6 (fun z => absurd z hx) (fun _ => ?_)
      refine v_go rfl ?_
      refine v_bF rfl (by decide) ?_
      exact v_go rfl (v_rt rfl trivial (h _ (frM.refl _) hI))
end
section
/-! ===== ofCrier, reading, back, many ===== -/
def sp_crier (S : SH) (c : Nat) (y : Int32) : Int32 := if y = 0 then nI (S.2.2.1 2 c) else if y = 1 then nI (S.2.2.1 3 c) else if y = 2 then nI (S.2.2.1 4 c) else if y = 3 then p_lby S c S.1 else if y = 4 then oI (p_hb (S.1 - 1) (S.2.2.1 4 c) (S.2.2.1 3 c)) else -2
theorem nI_p {n : Nat} (h : n ≠ 0) : nI n - 1 = nI (n - 1) := by
  cases n with
  | zero => exact absurd rfl h
  | succ n => exact nI_pred n
theorem s_ofCrier (x y : Int32) : StepI 32 118 [.int x, .int y] := by
  intro L Z hz
  obtain ⟨S, rd, sh, tr, fl⟩ := Z
  have hoS : okS S := hz.1
  have hn6 : S.1 ≤ 6 := hoS.1
  have hk3 : S.2.1 ≤ 3 := hoS.2.1
  have hk6 : S.2.1 ≤ 6 := by omega
  by_cases hx : vp_in x S.2.1
  · obtain ⟨c, hc, rfl⟩ := vp_in_of hx (by omega)
    have hcl : (nI c).toNatClampNeg = c := nI_clamp (by omega)
    have hin : vp_in (nI c) 3 := vp_in_nI (by omega) (by omega)
    have hs0 : S.2.2.1 4 c < S.1 := (hoS.2.2.2 c hc).2.2.2
    have hn1 : nI S.1 - 1 = nI (S.1 - 1) := nI_p (by omega)
    refine ⟨sp_crier S c y, (S, rd, sh, tr, fl), hz, fun D Q hI h => ?_, fun D Q hI h => ?_⟩
    · have r1 : D 1 0 = nI S.1 := hI.1.1
      have r4 : D 4 c = nI (S.2.2.1 2 c) := (hI.1.2.2.2.1 c hc).1
      have r5 : D 5 c = nI (S.2.2.1 3 c) := (hI.1.2.2.2.1 c hc).2.1
      have r6 : D 6 c = nI (S.2.2.1 4 c) := (hI.1.2.2.2.1 c hc).2.2
      refine v_in (tb' := t_X4_ofCrier) (rk' := 1) rfl rfl rfl ?_
      refine v_go rfl ?_
      refine v_ca rfl ?_
      refine c_isCrier hI.1.2.1 hk6 (fun _ => ?_) (fun z => absurd hx z)
      refine v_go rfl ?_
      refine v_bT rfl (by decide) ?_
      refine v_go rfl ?_
      unfold sp_crier at h
      refine v_sw rfl ?_
      refine br_c (fun e => ?_) (fun e0 => ?_)
      · rw [if_pos e] at h
        refine v_go rfl (v_sd rfl hin ?_)
        rw [hcl, r4]
        exact v_rt rfl trivial (h D (frC.refl _) hI)
      · rw [if_neg e0] at h
        refine br_c (fun e => ?_) (fun e1 => ?_)
        · rw [if_pos e] at h
          refine v_go rfl (v_sd rfl hin ?_)
          rw [hcl, r5]
          exact v_rt rfl trivial (h D (frC.refl _) hI)
        · rw [if_neg e1] at h
          refine br_c (fun e => ?_) (fun e2 => ?_)
          · rw [if_pos e] at h
            refine v_go rfl (v_sd rfl hin ?_)
            rw [hcl, r6]
            exact v_rt rfl trivial (h D (frC.refl _) hI)
          · rw [if_neg e2] at h
            refine br_c (fun e => ?_) (fun e3 => ?_)
            · rw [if_pos e] at h
              refine v_go rfl ?_
              refine v_ca rfl ?_
              refine c_workOut (Or.inl rfl) hI.1 hoS (fun D2 hf2 hF => ?_)
              have hI2 := InvC_F hI hf2
              have r12 : D2 1 0 = nI S.1 := hI2.1.1
              refine v_go rfl ?_
              rw [r12]
              refine v_ca rfl ?_
              refine c_linesBy hn6 (fun i hi => (hF.1 i hi).2.1) (by omega) hk3 ?_
              exact v_rt rfl trivial (h D2 (frC_F hf2) hI2)
            · rw [if_neg e3] at h
              refine br_c (fun e => ?_) (fun e4 => ?_)
              · rw [if_pos e] at h
                refine v_go rfl ?_
                rw [r1, hn1]
                refine v_ca rfl ?_
                refine c_hor (Or.inl rfl) hI.1 hoS hc (by omega) ?_
                exact v_rt rfl trivial (h D (frC.refl _) hI)
              · rw [if_neg e4] at h
                exact v_go rfl (v_rt rfl trivial (h D (frC.refl _) hI))
    · refine v_in (tb' := t_X5_ofCrier) (rk' := 1) rfl rfl rfl ?_
      refine v_go rfl ?_
      refine v_ca rfl ?_
      refine c_noCrier hI.1.2.1 hk6 (fun _ => ?_) (fun z => absurd hx z)
      refine v_go rfl ?_
      refine v_bT rfl (by decide) ?_
      refine v_go rfl ?_
      refine v_ca rfl ?_
      refine c_rains hI.1 hoS (fun D2 hf2 hF => ?_)
      have hI2 := InvM_R hI hf2
      have h := h D2 (frM_R hf2) hI2
      have r1 : D2 34 1 = nI S.1 := hI2.1.1
      have r4 : D2 37 c = nI (S.2.2.1 2 c) := (hI2.1.2.2.2.1 c hc).1
      have r5 : D2 38 c = nI (S.2.2.1 3 c) := (hI2.1.2.2.2.1 c hc).2.1
      have r6 : D2 39 c = nI (S.2.2.1 4 c) := (hI2.1.2.2.2.1 c hc).2.2
      have fin : m_V L 7 Q t_X5_ofCrier 1 (56, [some (.ref 34), some (.int (nI c)), some (.int y), some (.int (p_lby S c S.1)), some (.int (nI S.1))], [], D2) := by
        unfold sp_crier at h
        refine v_go rfl ?_
        refine v_sw rfl ?_
        refine br_c (fun e => ?_) (fun e0 => ?_)
        · rw [if_pos e] at h
          refine v_go rfl (v_sd rfl hin ?_)
          rw [hcl, r4]
          exact v_rt rfl trivial h
        · rw [if_neg e0] at h
          refine br_c (fun e => ?_) (fun e1 => ?_)
          · rw [if_pos e] at h
            refine v_go rfl (v_sd rfl hin ?_)
            rw [hcl, r5]
            exact v_rt rfl trivial h
          · rw [if_neg e1] at h
            refine br_c (fun e => ?_) (fun e2 => ?_)
            · rw [if_pos e] at h
              refine v_go rfl (v_sd rfl hin ?_)
              rw [hcl, r6]
              exact v_rt rfl trivial h
            · rw [if_neg e2] at h
              refine br_c (fun e => ?_) (fun e3 => ?_)
              · rw [if_pos e] at h
                exact v_go rfl (v_rt rfl trivial h)
              · rw [if_neg e3] at h
                refine br_c (fun e => ?_) (fun e4 => ?_)
                · rw [if_pos e] at h
                  refine v_go rfl ?_
                  rw [r1, hn1]
                  refine v_ca rfl ?_
                  refine c_hourBy hI2.1 hoS hc (by show S.1 - 1 < 6; omega) ?_
                  exact v_rt rfl trivial h
                · rw [if_neg e4] at h
                  exact v_go rfl (v_rt rfl trivial h)
      have key : ∀ (m l : Nat), l + m = S.1 → m_V L 7 Q t_X5_ofCrier 1 (19, [some (.ref 34), some (.int (nI c)), some (.int y), some (.int (p_lby S c l)), some (.int (nI l))], [], D2) := by
        intro m
        induction m with
        | zero =>
          intro l hm
          have hm : l = S.1 := by omega
          subst hm
          refine v_go rfl ?_
          rw [r1]
          refine v_bT rfl (Int32.le_refl _) ?_
          exact fin
        | succ m ih =>
          intro l hm
          have hcl2 : (nI l).toNatClampNeg = l := nI_clamp (by omega)
          have hin2 : vp_in (nI l) 6 := vp_in_nI (by omega) (by omega)
          have hk := ih (l + 1) (by omega)
          rw [← nI_1] at hk
          have e : p_lby S c (l + 1) = p_lby S c l ||| (if p_by S l = some c then 1 <<< (nI l &&& 31) else 0) := rfl
          rw [e] at hk
          refine v_go rfl ?_
          rw [r1]
          refine v_bF rfl (nI_ge (by omega) (by omega)) ?_
          refine v_go rfl ?_
          refine v_sd rfl hin2 ?_
          rw [hcl2, (hF.1 l (by show l < S.1; omega)).2.1]
          refine v_go rfl ?_
          by_cases hb : p_by S l = some c
          · rw [if_pos hb] at hk
            refine v_bF rfl (by rw [hb]; exact fun z => z rfl) ?_
            exact v_run 8 rfl hk
          · rw [if_neg hb] at hk
            refine v_bT rfl ?_ ?_
            · cases hw : p_by S l with
              | none => exact fun z => nI_m9 (by omega) z.symm
              | some w =>
                intro z
                have hw3 := ((p_fr_ok S l S.2.1).2 w hw).1
                have := (nI_eq (by omega) (by omega)).mp z
                exact hb (by rw [hw, this])
            · exact v_run 5 rfl hk
      exact v_run 4 rfl (key S.1 0 (by omega))
  · refine ⟨-1, (S, rd, sh, tr, fl), hz, fun D Q hI h => ?_, fun D Q hI h => ?_⟩
    · refine v_in (tb' := t_X4_ofCrier) (rk' := 1) rfl rfl rfl ?_
      refine v_go rfl ?_
      refine v_ca rfl ?_
      refine c_isCrier hI.1.2.1 hk6 (fun z => absurd z hx) (fun _ => ?_)
      refine v_go rfl ?_
      refine v_bF rfl (by decide) ?_
      exact v_go rfl (v_rt rfl trivial (h _ (frC.refl _) hI))
    · refine v_in (tb' := t_X5_ofCrier) (rk' := 1) rfl rfl rfl ?_
      refine v_go rfl ?_
      refine v_ca rfl ?_
      refine c_noCrier hI.1.2.1 hk6 (fun z => absurd z hx) (fun _ => ?_)
      refine v_go rfl ?_
      refine v_bF rfl (by decide) ?_
      exact v_go rfl (v_rt rfl trivial (h _ (frM.refl _) hI))
def updN (f : Nat → Nat) (k v : Nat) : Nat → Nat := fun j => if j = k then v else f j
theorem s_reading (x y : Int32) : StepI 56 144 [.int x, .int y] := by
  intro L Z hz
  obtain ⟨S, ⟨r, rf, rw0⟩, sh, tr, fl⟩ := Z
  have hoS : okS S := hz.1
  have hn6 : S.1 ≤ 6 := hoS.1
  have hnk : S.1 = 0 ↔ S.2.1 = 0 := hz.2.1
  have hk3 : S.2.1 ≤ 3 := hoS.2.1
  have hr8 : r ≤ 8 := hz.2.2.1
  have hg : (120 : Int64).toInt = ((121 : Nat) : Int) - 1 := by decide
  by_cases hx : vp_in x 4
  · by_cases hy : vp_in y 121
    · by_cases hn : S.1 = 0
      · have hk : S.2.1 = 0 := hnk.mp hn
        refine ⟨-3, (S, (r, rf, rw0), sh, tr, fl), hz, fun D Q hI h => ?_, fun D Q hI h => ?_⟩
        · refine v_in (tb' := t_X4_reading) (rk' := 1) rfl rfl rfl ?_
          refine v_go rfl ?_
          refine v_ca rfl ?_
          refine c_isWithin (n := 120) (by omega) (fun _ => ?_) (fun z => absurd hy z)
          refine v_ca rfl ?_
          refine c_refusalOf hI.1.1 hn6 (fun z => absurd hx z) (fun _ z => absurd z (by decide)) (fun _ _ _ => ?_) (fun _ _ z => absurd hn z)
          refine v_go rfl ?_
          refine v_bF rfl (by decide) ?_
          exact v_go rfl (v_rt rfl trivial (h _ (frC.refl _) hI))
        · have r2 : D 34 2 = nI 0 := by rw [← hk]; exact hI.1.2.1
          refine v_in (tb' := t_X5_reading) (rk' := 1) rfl rfl rfl ?_
          refine v_go rfl ?_
          refine v_ca rfl ?_
          refine c_noField (fun _ => ?_) (fun z => absurd hx z)
          refine v_go rfl ?_
          refine v_bT rfl (by decide) ?_
          refine v_go rfl ?_
          refine v_ca rfl ?_
          refine c_in (fun _ _ => ?_) (fun z => absurd ((in_iff hg).mpr hy) z)
          refine v_go rfl ?_
          refine v_bT rfl (by decide) ?_
          refine v_go rfl ?_
          rw [r2]
          refine v_bF rfl (fun z => z rfl) ?_
          exact v_go rfl (v_rt rfl trivial (h _ (frM.refl _) hI))
      · have hk : S.2.1 ≠ 0 := fun z => hn (hnk.mpr z)
        by_cases hr : r = 8
        · refine ⟨-4, (S, (r, rf, rw0), sh, tr, fl), hz, fun D Q hI h => ?_, fun D Q hI h => ?_⟩
          · have r7 : D 0 7 = nI 8 := by rw [← hr]; exact hI.2.1
            refine v_in (tb' := t_X4_reading) (rk' := 1) rfl rfl rfl ?_
            refine v_go rfl ?_
            refine v_ca rfl ?_
            refine c_isWithin (n := 120) (by omega) (fun _ => ?_) (fun z => absurd hy z)
            refine v_ca rfl ?_
            refine c_refusalOf hI.1.1 hn6 (fun z => absurd hx z) (fun _ z => absurd z (by decide)) (fun _ _ z => absurd z hn) (fun _ _ _ => ?_)
            refine v_go rfl ?_
            refine v_bT rfl rfl ?_
            refine v_go rfl ?_
            rw [r7]
            refine v_bF rfl (by decide) ?_
            exact v_go rfl (v_rt rfl trivial (h _ (frC.refl _) hI))
          · have r2 : D 34 2 = nI S.2.1 := hI.1.2.1
            have r7 : D 34 26 = nI 8 := by rw [← hr]; exact hI.2.1
            refine v_in (tb' := t_X5_reading) (rk' := 1) rfl rfl rfl ?_
            refine v_go rfl ?_
            refine v_ca rfl ?_
            refine c_noField (fun _ => ?_) (fun z => absurd hx z)
            refine v_go rfl ?_
            refine v_bT rfl (by decide) ?_
            refine v_go rfl ?_
            refine v_ca rfl ?_
            refine c_in (fun _ _ => ?_) (fun z => absurd ((in_iff hg).mpr hy) z)
            refine v_go rfl ?_
            refine v_bT rfl (by decide) ?_
            refine v_go rfl ?_
            rw [r2]
            refine v_bT rfl (nI_ne0 (by omega) (by omega)) ?_
            refine v_go rfl ?_
            rw [r7]
            refine v_bF rfl (by decide) ?_
            exact v_go rfl (v_rt rfl trivial (h _ (frM.refl _) hI))
        · obtain ⟨f, hf, rfl⟩ := vp_in_of hx (by omega)
          obtain ⟨v, hv, rfl⟩ := vp_in_of hy (by omega)
          have hcr : (nI r).toNatClampNeg = r := nI_clamp (by omega)
          have hinr : vp_in (nI r) 8 := vp_in_nI (by omega) (by omega)
          have hz' : okZ (S, (r + 1, updN rf r f, updN rw0 r v), sh, tr, fl) := by
            refine ⟨hoS, hnk, by show r + 1 ≤ 8; omega, fun i hi => ?_, hz.2.2.2.2⟩
            show updN rf r f i < 4 ∧ updN rw0 r v i ≤ 120
            unfold updN
            by_cases e : i = r
            · rw [if_pos e, if_pos e]
              omega
            · have hi : i < r + 1 := hi
              rw [if_neg e, if_neg e]
              exact hz.2.2.2.1 i (by show i < r; omega)
          refine ⟨nI r, (S, (r + 1, updN rf r f, updN rw0 r v), sh, tr, fl), hz', fun D Q hI h => ?_, fun D Q hI h => ?_⟩
          · have r7 : D 0 7 = nI r := hI.2.1
            have r7a : ∀ v, m_up D 32 r v 0 7 = nI r := fun _ => r7
            have r7b : ∀ v w, m_up (m_up D 32 r v) 33 r w 0 7 = nI r := fun _ _ => r7
            refine v_in (tb' := t_X4_reading) (rk' := 1) rfl rfl rfl ?_
            refine v_go rfl ?_
            refine v_ca rfl ?_
            refine c_isWithin (n := 120) (by omega) (fun _ => ?_) (fun z => absurd hy z)
            refine v_ca rfl ?_
            refine c_refusalOf hI.1.1 hn6 (fun z => absurd hx z) (fun _ z => absurd z (by decide)) (fun _ _ z => absurd z hn) (fun _ _ _ => ?_)
            refine v_go rfl ?_
            refine v_bT rfl rfl ?_
            refine v_go rfl ?_
            rw [r7]
            refine v_bT rfl (nI_lt (b := 8) (by omega) (by omega)) ?_
            refine v_go rfl ?_
            rw [r7]
            refine v_sd rfl hinr ?_
            rw [hcr]
            refine v_go rfl ?_
            rw [r7a]
            refine v_sd rfl hinr ?_
            rw [hcr]
            refine v_go rfl ?_
            rw [r7b, m_up_s, nI_1, nI_pred]
            refine v_rt rfl trivial (h _ ((((frC.refl _).up (by omega)).up (by omega)).up (by omega)) ?_)
            refine ⟨hI.1, m_up_s, fun i hi => ?_, fun k hk => shC_keep (by rw [m_up_ne (by omega), m_up_ne (by omega), m_up_ne (by omega)]) (by rw [m_up_ne (by omega), m_up_ne (by omega), m_up_ne (by omega)]) (hI.2.2.2.1 k hk), hI.2.2.2.2.1, hI.2.2.2.2.2⟩
            show upd (D 32) r (nI f) i = nI (updN rf r f i) ∧ upd (D 33) r (nI v) i = nI (updN rw0 r v i)
            unfold updN
            by_cases e : i = r
            · rw [e, pk_us, pk_us, if_pos rfl, if_pos rfl]
              exact ⟨rfl, rfl⟩
            · have hi : i < r + 1 := hi
              rw [pk_un e, pk_un e, if_neg e, if_neg e]
              exact hI.2.2.1 i (by show i < r; omega)
          · have r2 : D 34 2 = nI S.2.1 := hI.1.2.1
            have r7 : D 34 26 = nI r := hI.2.1
            have r7a : ∀ v, m_up D 54 r v 34 26 = nI r := fun _ => r7
            have r7b : ∀ v w, m_up (m_up D 54 r v) 55 r w 34 26 = nI r := fun _ _ => r7
            refine v_in (tb' := t_X5_reading) (rk' := 1) rfl rfl rfl ?_
            refine v_go rfl ?_
            refine v_ca rfl ?_
            refine c_noField (fun _ => ?_) (fun z => absurd hx z)
            refine v_go rfl ?_
            refine v_bT rfl (by decide) ?_
            refine v_go rfl ?_
            refine v_ca rfl ?_
            refine c_in (fun _ _ => ?_) (fun z => absurd ((in_iff hg).mpr hy) z)
            refine v_go rfl ?_
            refine v_bT rfl (by decide) ?_
            refine v_go rfl ?_
            rw [r2]
            refine v_bT rfl (nI_ne0 (by omega) (by omega)) ?_
            refine v_go rfl ?_
            rw [r7]
            refine v_bT rfl (fun z => hr ((nI_eq (b := 8) (by omega) (by omega)).mp z)) ?_
            refine v_go rfl ?_
            rw [r7]
            refine v_sd rfl hinr ?_
            rw [hcr]
            refine v_go rfl ?_
            rw [r7a]
            refine v_sd rfl hinr ?_
            rw [hcr]
            refine v_go rfl ?_
            rw [r7b, m_up_s, nI_1, nI_pred]
            refine v_rt rfl trivial (h _ ((((frM.refl _).up (by omega)).up (by omega)).up (by omega)) ?_)
            refine ⟨hI.1, m_up_s, fun i hi => ?_, fun k hk => shM_keep rfl rfl rfl (hI.2.2.2.1 k hk), hI.2.2.2.2.1, hI.2.2.2.2.2⟩
            show upd (D 54) r (nI f) i = nI (updN rf r f i) ∧ upd (D 55) r (nI v) i = nI (updN rw0 r v i)
            unfold updN
            by_cases e : i = r
            · rw [e, pk_us, pk_us, if_pos rfl, if_pos rfl]
              exact ⟨rfl, rfl⟩
            · have hi : i < r + 1 := hi
              rw [pk_un e, pk_un e, if_neg e, if_neg e]
              exact hI.2.2.1 i (by show i < r; omega)
    · refine ⟨-2, (S, (r, rf, rw0), sh, tr, fl), hz, fun D Q hI h => ?_, fun D Q hI h => ?_⟩
      · refine v_in (tb' := t_X4_reading) (rk' := 1) rfl rfl rfl ?_
        refine v_go rfl ?_
        refine v_ca rfl ?_
        refine c_isWithin (n := 120) (by omega) (fun z => absurd z hy) (fun _ => ?_)
        refine v_ca rfl ?_
        refine c_refusalOf hI.1.1 hn6 (fun z => absurd hx z) (fun _ _ => ?_) (fun _ z => absurd rfl z) (fun _ z => absurd rfl z)
        refine v_go rfl ?_
        refine v_bF rfl (by decide) ?_
        exact v_go rfl (v_rt rfl trivial (h _ (frC.refl _) hI))
      · refine v_in (tb' := t_X5_reading) (rk' := 1) rfl rfl rfl ?_
        refine v_go rfl ?_
        refine v_ca rfl ?_
        refine c_noField (fun _ => ?_) (fun z => absurd hx z)
        refine v_go rfl ?_
        refine v_bT rfl (by decide) ?_
        refine v_go rfl ?_
        refine v_ca rfl ?_
        refine c_in (fun a b => absurd ((in_iff hg).mp ⟨a, b⟩) hy) (fun _ => ?_)
        refine v_go rfl ?_
        refine v_bF rfl (by decide) ?_
        exact v_go rfl (v_rt rfl trivial (h _ (frM.refl _) hI))
  · refine ⟨-1, (S, (r, rf, rw0), sh, tr, fl), hz, fun D Q hI h => ?_, fun D Q hI h => ?_⟩
    · refine v_in (tb' := t_X4_reading) (rk' := 1) rfl rfl rfl ?_
      refine v_go rfl ?_
      refine v_ca rfl ?_
      refine c_isWithin (n := 120) (by omega) (fun hy => ?_) (fun hy => ?_)
      all_goals
        refine v_ca rfl ?_
        refine c_refusalOf hI.1.1 hn6 (fun _ => ?_) (fun z => absurd z hx) (fun z => absurd z hx) (fun z => absurd z hx)
        refine v_go rfl ?_
        refine v_bF rfl (by decide) ?_
        exact v_go rfl (v_rt rfl trivial (h _ (frC.refl _) hI))
    · refine v_in (tb' := t_X5_reading) (rk' := 1) rfl rfl rfl ?_
      refine v_go rfl ?_
      refine v_ca rfl ?_
      refine c_noField (fun z => absurd z hx) (fun _ => ?_)
      refine v_go rfl ?_
      refine v_bF rfl (by decide) ?_
      exact v_go rfl (v_rt rfl trivial (h _ (frM.refl _) hI))
theorem s_back (x : Int32) : StepI 57 145 [.int x] := by
  intro L Z hz
  obtain ⟨S, ⟨r, rf, rw0⟩, sh, tr, fl⟩ := Z
  have hr8 : r ≤ 8 := hz.2.2.1
  have hg : (nI r).toInt64.toInt = ((r + 1 : Nat) : Int) - 1 := by
    rw [nI_l (by omega), lN_toInt (by omega)]
    omega
  by_cases hx : vp_in x (r + 1)
  · obtain ⟨k, hk, rfl⟩ := vp_in_of hx (by omega)
    have es : nI r - nI k = nI (r - k) := pk_sub (by omega)
    have hz' : okZ (S, (r - k, rf, rw0), sh, tr, fl) := ⟨hz.1, hz.2.1, by show r - k ≤ 8; omega, fun i hi => hz.2.2.2.1 i (by have hi : i < r - k := hi; show i < r; omega), hz.2.2.2.2⟩
    refine ⟨nI (r - k), (S, (r - k, rf, rw0), sh, tr, fl), hz', fun D Q hI h => ?_, fun D Q hI h => ?_⟩
    · have r7 : D 0 7 = nI r := hI.2.1
      refine v_in (tb' := t_X4_back) (rk' := 1) rfl rfl rfl ?_
      refine v_go rfl ?_
      rw [r7]
      refine v_ca rfl ?_
      refine c_isWithin (n := r) (by omega) (fun _ => ?_) (fun z => absurd hx z)
      refine v_go rfl ?_
      refine v_bT rfl (by decide) ?_
      refine v_go rfl ?_
      rw [m_up_s, r7, es]
      refine v_rt rfl trivial (h _ ((frC.refl _).up (by omega)) ?_)
      exact ⟨hI.1, m_up_s, fun i hi => hI.2.2.1 i (by have hi : i < r - k := hi; show i < r; omega), fun k hk => shC_keep (m_up_ne (by omega)) (m_up_ne (by omega)) (hI.2.2.2.1 k hk), hI.2.2.2.2.1, hI.2.2.2.2.2⟩
    · have r7 : D 34 26 = nI r := hI.2.1
      refine v_in (tb' := t_X5_back) (rk' := 1) rfl rfl rfl ?_
      refine v_go rfl ?_
      rw [r7]
      refine v_ca rfl ?_
      refine c_in (fun _ _ => ?_) (fun z => absurd ((in_iff hg).mpr hx) z)
      refine v_go rfl ?_
      refine v_bT rfl (by decide) ?_
      refine v_go rfl ?_
      rw [m_up_s, r7, es]
      refine v_rt rfl trivial (h _ ((frM.refl _).up (by omega)) ?_)
      exact ⟨hI.1, m_up_s, fun i hi => hI.2.2.1 i (by have hi : i < r - k := hi; show i < r; omega), fun k hk => shM_keep rfl rfl rfl (hI.2.2.2.1 k hk), hI.2.2.2.2.1, hI.2.2.2.2.2⟩
  · refine ⟨-2, (S, (r, rf, rw0), sh, tr, fl), hz, fun D Q hI h => ?_, fun D Q hI h => ?_⟩
    · have r7 : D 0 7 = nI r := hI.2.1
      refine v_in (tb' := t_X4_back) (rk' := 1) rfl rfl rfl ?_
      refine v_go rfl ?_
      rw [r7]
      refine v_ca rfl ?_
      refine c_isWithin (n := r) (by omega) (fun z => absurd z hx) (fun _ => ?_)
      refine v_go rfl ?_
      refine v_bF rfl (by decide) ?_
      exact v_go rfl (v_rt rfl trivial (h _ (frC.refl _) hI))
    · have r7 : D 34 26 = nI r := hI.2.1
      refine v_in (tb' := t_X5_back) (rk' := 1) rfl rfl rfl ?_
      refine v_go rfl ?_
      rw [r7]
      refine v_ca rfl ?_
      refine c_in (fun a b => absurd ((in_iff hg).mp ⟨a, b⟩) hx) (fun _ => ?_)
      refine v_go rfl ?_
      refine v_bF rfl (by decide) ?_
      exact v_go rfl (v_rt rfl trivial (h _ (frM.refl _) hI))
end
section
/-! ===== how many bits; many ===== -/
def bcE (x : Int32) : Int32 :=
  let a := x - ((x.toUInt32 >>> ((1 : Int32).toUInt32 &&& Int32.toUInt32 31)).toInt32 &&& 1431655765)
  let b := (a &&& 858993459) + ((a.toUInt32 >>> ((2 : Int32).toUInt32 &&& Int32.toUInt32 31)).toInt32 &&& 858993459)
  let c := (b + (b.toUInt32 >>> ((4 : Int32).toUInt32 &&& Int32.toUInt32 31)).toInt32) &&& 252645135
  let d := c + (c.toUInt32 >>> ((8 : Int32).toUInt32 &&& Int32.toUInt32 31)).toInt32
  let e := d + (d.toUInt32 >>> ((16 : Int32).toUInt32 &&& Int32.toUInt32 31)).toInt32
  e &&& 63
def popN : Nat → Nat → Nat
  | 0, _ => 0
  | k + 1, m => m % 2 + popN k (m / 2)
theorem bcE_ok : ∀ m, m < 64 → bcE (nI m) = nI (popN 6 m) := by decide +kernel
theorem c_bitCount {L d m : Nat} {D : m_D} {Q : m_K} (hm : m < 64) (h : Q (some (.int (nI (popN 6 m)))) D) : m_call L (d + 1) 166 [.int (nI m)] D Q := by
  rw [← bcE_ok m hm] at h
  refine v_in (tb' := t_J6_bitCount_0f7a4) (rk' := 1) rfl rfl rfl ?_
  refine v_go rfl ?_
  exact v_rt rfl trivial h
theorem popN_0 : ∀ k, popN k 0 = 0
  | 0 => rfl
  | k + 1 => by
    show 0 % 2 + popN k (0 / 2) = 0
    rw [show 0 / 2 = 0 from rfl, popN_0 k]
theorem c_bits {L d m : Nat} {D : m_D} {Q : m_K} (hm : m < 64) (h : Q (some (.int (nI (popN 6 m)))) D) : m_call L (d + 1) 92 [.int (nI m)] D Q := by
  have key : ∀ (k a b : Nat), b < 2 ^ k → k ≤ 6 → a + popN k b = popN 6 m → m_V L d Q t_X5_bits 1 (4, [some (.int (nI m)), some (.int (nI a)), some (.int (nI b))], [], D) := by
    intro k
    induction k with
    | zero =>
      intro a b hb _ he
      have hb : b = 0 := by omega
      subst hb
      have he : a = popN 6 m := he
      refine v_go rfl ?_
      refine v_bT rfl (by decide) ?_
      refine v_go rfl ?_
      rw [he]
      exact v_rt rfl trivial h
    | succ k ih =>
      intro a b hb hk he
      have h64 : 2 ^ (k + 1) ≤ 64 := by
        have : 2 ^ (k + 1) ≤ 2 ^ 6 := Nat.pow_le_pow_right (by omega) hk
        exact this
      by_cases e0 : b = 0
      · subst e0
        rw [popN_0] at he
        have he : a = popN 6 m := he
        refine v_go rfl ?_
        refine v_bT rfl (by decide) ?_
        refine v_go rfl ?_
        rw [he]
        exact v_rt rfl trivial h
      · have hk2 := ih (a + b % 2) (b / 2) (by rw [Nat.pow_succ] at hb; omega) (by omega) (by
          have he : a + (b % 2 + popN k (b / 2)) = popN 6 m := he
          omega)
        rw [← nI_add] at hk2
        have e1 : nI b &&& 1 = nI (b % 2) := pk_andN (m := 1) (by omega) 1 (by decide)
        have e2 : nI b >>> ((1 : Int32) &&& 31) = nI (b / 2) := pk_shrN (by omega) _ 1 (by decide)
        rw [← e1, ← e2] at hk2
        refine v_go rfl ?_
        refine v_bF rfl (nI_nle (by omega) (by omega)) ?_
        exact v_run 11 rfl hk2
  refine v_in (tb' := t_X5_bits) (rk' := 1) rfl rfl rfl ?_
  exact v_run 4 rfl (key 6 0 m (by omega) (by omega) (by omega))
def cB (b : Bool) : Nat := if b then 1 else 0
theorem pop4 : ∀ b0 b1 b2 b3 : Bool, popN 6 ((((0 + if b0 then 2 ^ 0 else 0) + if b1 then 2 ^ 1 else 0) + if b2 then 2 ^ 2 else 0) + if b3 then 2 ^ 3 else 0) = cB b0 + cB b1 + cB b2 + cB b3 := by decide +kernel
theorem pop6 : ∀ b0 b1 b2 b3 b4 b5 : Bool, popN 6 ((((((0 + if b0 then 2 ^ 0 else 0) + if b1 then 2 ^ 1 else 0) + if b2 then 2 ^ 2 else 0) + if b3 then 2 ^ 3 else 0) + if b4 then 2 ^ 4 else 0) + if b5 then 2 ^ 5 else 0) = cB b0 + cB b1 + cB b2 + cB b3 + cB b4 + cB b5 := by decide +kernel
theorem b_sum_lt (b : Nat → Bool) : ∀ n, b_sum b n < 2 ^ n
  | 0 => (by show 0 < 1; omega)
  | n + 1 => by
    have h := b_sum_lt b n
    show b_sum b n + (if b n then 2 ^ n else 0) < 2 ^ (n + 1)
    rw [Nat.pow_succ]
    split <;> omega
/-- all coughs -/
def p_cg (S : SH) : Nat := popN 6 (b_sum (fun f => S.2.2.2 f 0) 4) + popN 6 (b_sum (fun f => S.2.2.2 f 1) 4) + popN 6 (b_sum (fun f => S.2.2.2 f 2) 4) + popN 6 (b_sum (fun f => S.2.2.2 f 3) 4) + popN 6 (b_sum (fun f => S.2.2.2 f 4) 4) + popN 6 (b_sum (fun f => S.2.2.2 f 5) 4)
theorem p_cg_eq (S : SH) : p_cg S = popN 6 (b_sum (fun t => S.2.2.2 0 t) 6) + popN 6 (b_sum (fun t => S.2.2.2 1 t) 6) + popN 6 (b_sum (fun t => S.2.2.2 2 t) 6) + popN 6 (b_sum (fun t => S.2.2.2 3 t) 6) := by
  have e4 : ∀ b : Nat → Bool, popN 6 (b_sum b 4) = cB (b 0) + cB (b 1) + cB (b 2) + cB (b 3) := fun b => pop4 (b 0) (b 1) (b 2) (b 3)
  have e6 : ∀ b : Nat → Bool, popN 6 (b_sum b 6) = cB (b 0) + cB (b 1) + cB (b 2) + cB (b 3) + cB (b 4) + cB (b 5) := fun b => pop6 (b 0) (b 1) (b 2) (b 3) (b 4) (b 5)
  unfold p_cg
  rw [e4, e4, e4, e4, e4, e4, e6, e6, e6, e6]
  omega
theorem c_coughCount {L d : Nat} {S : SH} {D : m_D} {Q : m_K} (hr : relC 1 D S) (h : Q (some (.int (nI (p_cg S)))) D) : m_call L (d + 2) 17 [.ref 1] D Q := by
  have h5 := hr.2.2.2.2
  have hb : ∀ t, b_sum (fun f => S.2.2.2 f t) 4 < 64 := fun t => Nat.lt_of_lt_of_le (b_sum_lt _ 4) (by decide)
  unfold p_cg at h
  refine v_in (tb' := t_X2_coughCount) (rk' := 1) rfl rfl rfl ?_
  refine v_go rfl ?_
  refine v_bF rfl (by decide) ?_
  refine v_go rfl ?_
  refine v_sd rfl (vp_in_nI (n := 0) (by omega) (by omega)) ?_
  refine v_ca rfl ?_
  refine Eq.mp (congrArg (fun z => m_call L (d + 1) 166 [.int z] _ _) (h5 0 (by omega)).symm) ?_
  refine c_bitCount (hb 0) ?_
  refine v_go rfl ?_
  refine v_bF rfl (by decide) ?_
  refine v_go rfl ?_
  refine v_sd rfl (vp_in_nI (n := 1) (by omega) (by omega)) ?_
  refine v_ca rfl ?_
  refine Eq.mp (congrArg (fun z => m_call L (d + 1) 166 [.int z] _ _) (h5 1 (by omega)).symm) ?_
  refine c_bitCount (hb 1) ?_
  refine v_go rfl ?_
  refine v_bF rfl (by decide) ?_
  refine v_go rfl ?_
  refine v_sd rfl (vp_in_nI (n := 2) (by omega) (by omega)) ?_
  refine v_ca rfl ?_
  refine Eq.mp (congrArg (fun z => m_call L (d + 1) 166 [.int z] _ _) (h5 2 (by omega)).symm) ?_
  refine c_bitCount (hb 2) ?_
  refine v_go rfl ?_
  refine v_bF rfl (by decide) ?_
  refine v_go rfl ?_
  refine v_sd rfl (vp_in_nI (n := 3) (by omega) (by omega)) ?_
  refine v_ca rfl ?_
  refine Eq.mp (congrArg (fun z => m_call L (d + 1) 166 [.int z] _ _) (h5 3 (by omega)).symm) ?_
  refine c_bitCount (hb 3) ?_
  refine v_go rfl ?_
  refine v_bF rfl (by decide) ?_
  refine v_go rfl ?_
  refine v_sd rfl (vp_in_nI (n := 4) (by omega) (by omega)) ?_
  refine v_ca rfl ?_
  refine Eq.mp (congrArg (fun z => m_call L (d + 1) 166 [.int z] _ _) (h5 4 (by omega)).symm) ?_
  refine c_bitCount (hb 4) ?_
  refine v_go rfl ?_
  refine v_bF rfl (by decide) ?_
  refine v_go rfl ?_
  refine v_sd rfl (vp_in_nI (n := 5) (by omega) (by omega)) ?_
  refine v_ca rfl ?_
  refine Eq.mp (congrArg (fun z => m_call L (d + 1) 166 [.int z] _ _) (h5 5 (by omega)).symm) ?_
  refine c_bitCount (hb 5) ?_
  refine v_go rfl ?_
  refine v_bT rfl (by decide) ?_
  refine v_go rfl ?_
  refine v_rt rfl trivial ?_
  rw [← nI_add, ← nI_add, ← nI_add, ← nI_add, ← nI_add] at h
  rw [show (0 : Int32) + nI (popN 6 (b_sum (fun f => S.2.2.2 f 0) 4)) = nI (popN 6 (b_sum (fun f => S.2.2.2 f 0) 4)) from Int32.zero_add _]
  exact h
/-- wet of all fields -/
def p_all (S : SH) : Nat := p_wet S 0 S.1 + p_wet S 1 S.1 + p_wet S 2 S.1 + p_wet S 3 S.1
theorem c_wetAll {L d : Nat} {S : SH} {D : m_D} {Q : m_K} (hF : ∀ f, f < 4 → D 20 f = nI (p_wet S f S.1)) (h : Q (some (.int (nI (p_all S)))) D) : m_call L (d + 1) 4 [.ref 15] D Q := by
  refine c_wetOfAll ?_
  rw [hF 0 (by omega), hF 1 (by omega), hF 2 (by omega), hF 3 (by omega), Int32.zero_add, nI_add, nI_add, nI_add]
  exact h
theorem c_wetAllM {L d : Nat} {S : SH} {D : m_D} {Q : m_K} (hF : ∀ f, f < 4 → D 50 f = nI (p_wet S f S.1)) (h : Q (some (.int (nI (p_all S)))) D) : m_call L (d + 1) 114 [.ref 34] D Q := by
  unfold p_all at h
  rw [← nI_add, ← nI_add, ← nI_add, ← hF 0 (by omega), ← hF 1 (by omega), ← hF 2 (by omega), ← hF 3 (by omega)] at h
  refine v_in (tb' := t_X5_wetOfAll) (rk' := 1) rfl rfl rfl ?_
  refine v_go rfl (v_sd rfl (vp_in_nI (n := 0) (by omega) (by omega)) ?_)
  refine v_go rfl (v_sd rfl (vp_in_nI (n := 1) (by omega) (by omega)) ?_)
  refine v_go rfl (v_sd rfl (vp_in_nI (n := 2) (by omega) (by omega)) ?_)
  refine v_go rfl (v_sd rfl (vp_in_nI (n := 3) (by omega) (by omega)) ?_)
  refine v_go rfl ?_
  exact v_rt rfl trivial h
def sp_many (S : SH) (r : Nat) (y : Int32) : Int32 := if y = 0 then nI S.1 else if y = 1 then nI S.2.1 else if y = 2 then nI (p_cg S) else if y = 3 then nI (p_all S) else if y = 4 then nI r else -2
theorem s_many (y : Int32) : StepI 79 165 [.int y] := by
  intro L Z hz
  obtain ⟨S, ⟨r, rf, rw0⟩, sh, tr, fl⟩ := Z
  have hoS : okS S := hz.1
  refine ⟨sp_many S r y, (S, (r, rf, rw0), sh, tr, fl), hz, fun D Q hI h => ?_, fun D Q hI h => ?_⟩
  · have r1 : D 1 0 = nI S.1 := hI.1.1
    have r2 : D 1 1 = nI S.2.1 := hI.1.2.1
    have r7 : D 0 7 = nI r := hI.2.1
    unfold sp_many at h
    refine v_in (tb' := t_X4_many) (rk' := 1) rfl rfl rfl ?_
    refine v_go rfl ?_
    refine v_sw rfl ?_
    refine br_c (fun e => ?_) (fun e0 => ?_)
    · rw [if_pos e] at h
      refine v_go rfl ?_
      rw [r1]
      exact v_rt rfl trivial (h D (frC.refl _) hI)
    · rw [if_neg e0] at h
      refine br_c (fun e => ?_) (fun e1 => ?_)
      · rw [if_pos e] at h
        refine v_go rfl ?_
        rw [r2]
        exact v_rt rfl trivial (h D (frC.refl _) hI)
      · rw [if_neg e1] at h
        refine br_c (fun e => ?_) (fun e2 => ?_)
        · rw [if_pos e] at h
          refine v_go rfl ?_
          refine v_ca rfl ?_
          refine c_coughCount hI.1 ?_
          exact v_rt rfl trivial (h D (frC.refl _) hI)
        · rw [if_neg e2] at h
          refine br_c (fun e => ?_) (fun e3 => ?_)
          · rw [if_pos e] at h
            refine v_go rfl ?_
            refine v_ca rfl ?_
            refine c_workOut (Or.inl rfl) hI.1 hoS (fun D2 hf2 hF => ?_)
            refine v_go rfl ?_
            refine v_ca rfl ?_
            refine c_wetAll hF.2.2.1 ?_
            exact v_rt rfl trivial (h D2 (frC_F hf2) (InvC_F hI hf2))
          · rw [if_neg e3] at h
            refine br_c (fun e => ?_) (fun e4 => ?_)
            · rw [if_pos e] at h
              refine v_go rfl ?_
              rw [r7]
              exact v_rt rfl trivial (h D (frC.refl _) hI)
            · rw [if_neg e4] at h
              exact v_go rfl (v_rt rfl trivial (h D (frC.refl _) hI))
  · have h5 := hI.1.2.2.2.2
    have hb : ∀ f, b_sum (fun t => S.2.2.2 f t) 6 < 64 := fun f => b_sum_lt _ 6
    refine v_in (tb' := t_X5_many) (rk' := 1) rfl rfl rfl ?_
    refine v_go rfl ?_
    refine v_bF rfl (by decide) ?_
    refine v_go rfl ?_
    refine v_sd rfl (vp_in_nI (n := 0) (by omega) (by omega)) ?_
    refine v_ca rfl ?_
    refine Eq.mp (congrArg (fun z => m_call L 7 92 [.int z] _ _) (h5 0 (by omega)).symm) ?_
    refine c_bits (hb 0) ?_
    refine v_go rfl ?_
    refine v_bF rfl (by decide) ?_
    refine v_go rfl ?_
    refine v_sd rfl (vp_in_nI (n := 1) (by omega) (by omega)) ?_
    refine v_ca rfl ?_
    refine Eq.mp (congrArg (fun z => m_call L 7 92 [.int z] _ _) (h5 1 (by omega)).symm) ?_
    refine c_bits (hb 1) ?_
    refine v_go rfl ?_
    refine v_bF rfl (by decide) ?_
    refine v_go rfl ?_
    refine v_sd rfl (vp_in_nI (n := 2) (by omega) (by omega)) ?_
    refine v_ca rfl ?_
    refine Eq.mp (congrArg (fun z => m_call L 7 92 [.int z] _ _) (h5 2 (by omega)).symm) ?_
    refine c_bits (hb 2) ?_
    refine v_go rfl ?_
    refine v_bF rfl (by decide) ?_
    refine v_go rfl ?_
    refine v_sd rfl (vp_in_nI (n := 3) (by omega) (by omega)) ?_
    refine v_ca rfl ?_
    refine Eq.mp (congrArg (fun z => m_call L 7 92 [.int z] _ _) (h5 3 (by omega)).symm) ?_
    refine c_bits (hb 3) ?_
    refine v_go rfl ?_
    refine v_bT rfl (by decide) ?_
    refine v_go rfl ?_
    have ecg : (0 : Int32) + nI (popN 6 (b_sum (fun t => S.2.2.2 0 t) 6)) + nI (popN 6 (b_sum (fun t => S.2.2.2 1 t) 6)) + nI (popN 6 (b_sum (fun t => S.2.2.2 2 t) 6)) + nI (popN 6 (b_sum (fun t => S.2.2.2 3 t) 6)) = nI (p_cg S) := by
      rw [Int32.zero_add, nI_add, nI_add, nI_add, p_cg_eq]
    refine v_ca rfl ?_
    refine c_rains hI.1 hoS (fun D2 hf2 hF => ?_)
    have hI2 := InvM_R hI hf2
    have h := h D2 (frM_R hf2) hI2
    have r1 : D2 34 1 = nI S.1 := hI2.1.1
    have r2 : D2 34 2 = nI S.2.1 := hI2.1.2.1
    have r7 : D2 34 26 = nI r := hI2.2.1
    unfold sp_many at h
    refine v_go rfl ?_
    refine v_sw rfl ?_
    refine br_c (fun e => ?_) (fun e0 => ?_)
    · rw [if_pos e] at h
      refine v_go rfl ?_
      rw [r1]
      exact v_rt rfl trivial h
    · rw [if_neg e0] at h
      refine br_c (fun e => ?_) (fun e1 => ?_)
      · rw [if_pos e] at h
        refine v_go rfl ?_
        rw [r2]
        exact v_rt rfl trivial h
      · rw [if_neg e1] at h
        refine br_c (fun e => ?_) (fun e2 => ?_)
        · rw [if_pos e, ← ecg] at h
          exact v_go rfl (v_rt rfl trivial h)
        · rw [if_neg e2] at h
          refine br_c (fun e => ?_) (fun e3 => ?_)
          · rw [if_pos e] at h
            refine v_go rfl ?_
            refine v_ca rfl ?_
            refine c_wetAllM hF.2.2.1 ?_
            exact v_rt rfl trivial h
          · rw [if_neg e3] at h
            refine br_c (fun e => ?_) (fun e4 => ?_)
            · rw [if_pos e] at h
              refine v_go rfl ?_
              rw [r7]
              exact v_rt rfl trivial h
            · rw [if_neg e4] at h
              exact v_go rfl (v_rt rfl trivial h)
end
section
/-! ===== sheets ===== -/
def setH (sh : Nat → Option (Nat × Nat × (Nat → Int32))) (k : Nat) (s : Option (Nat × Nat × (Nat → Int32))) : Nat → Option (Nat × Nat × (Nat → Int32)) := fun j => if j = k then s else sh j
theorem al_q {k q : Nat} (hk : k < 4) (h : [24, 26, 28, 30][(nI k).toNatClampNeg]? = some q) : q = 24 + 2 * k := by
  rw [nI_clamp (by omega)] at h
  match k, hk, h with
  | 0, _, h => cases h; rfl
  | 1, _, h => cases h; rfl
  | 2, _, h => cases h; rfl
  | 3, _, h => cases h; rfl
theorem InvC_sh {S : SH} {rd : Nat × (Nat → Nat) × (Nat → Nat)} {sh : Nat → Option (Nat × Nat × (Nat → Int32))} {tr fl : Int32} {D D' : m_D} {k : Nat} (s : Option (Nat × Nat × (Nat → Int32))) (h : InvC (S, rd, sh, tr, fl) D) (hk : k < 4) (hf : ∀ a, a < 8 ∨ (24 ≤ a ∧ a < 34) → a ≠ 24 + 2 * k → a ≠ 25 + 2 * k → D' a = D a) (hs : shC k D' s) : InvC (S, rd, setH sh k s, tr, fl) D' := by
  obtain ⟨h1, h2, h3, h4, h5, h6⟩ := h
  have e0 := hf 0 (by omega) (by omega) (by omega)
  refine ⟨relC_c (fun i hi => hf _ (by omega) (by omega) (by omega)) h1, by rw [e0]; exact h2, fun i hi => by rw [hf 32 (by omega) (by omega) (by omega), hf 33 (by omega) (by omega) (by omega)]; exact h3 i hi, fun j hj => ?_, by rw [e0]; exact h5, by rw [e0]; exact h6⟩
  show shC j D' (if j = k then s else sh j)
  by_cases e : j = k
  · rw [if_pos e, e]
    exact hs
  · rw [if_neg e]
    exact shC_keep (hf _ (by omega) (by omega) (by omega)) (hf _ (by omega) (by omega) (by omega)) (h4 j hj)
theorem InvM_sh {S : SH} {rd : Nat × (Nat → Nat) × (Nat → Nat)} {sh : Nat → Option (Nat × Nat × (Nat → Int32))} {tr fl : Int32} {D D' : m_D} {k : Nat} (s : Option (Nat × Nat × (Nat → Int32))) (hz : okZ (S, rd, sh, tr, fl)) (h : InvM (S, rd, sh, tr, fl) D) (hk : k < 4) (hf : ∀ a, (35 ≤ a ∧ a ≤ 40) ∨ a = 54 ∨ a = 55 → D' a = D a) (hg : ∀ j, j ∈ [0, 1, 2, 26, 33] → D' 34 j = D 34 j) (ho : ∀ j, j < 4 → j ≠ k → D' 56 j = D 56 j ∧ D' 57 j = D 57 j ∧ ∀ i, i < 60 → D' 58 (60 * j + i) = D 58 (60 * j + i)) (hs : shM k D' s) : InvM (S, rd, setH sh k s, tr, fl) D' := by
  obtain ⟨h1, h2, h3, h4, h5, h6⟩ := h
  refine ⟨relM_c (fun a b c => hf a (by omega)) (hg 1 (by simp)) (hg 2 (by simp)) h1, by rw [hg 26 (by simp)]; exact h2, fun i hi => by rw [hf 54 (by omega), hf 55 (by omega)]; exact h3 i hi, fun j hj => ?_, by rw [hg 33 (by simp)]; exact h5, by rw [hg 0 (by simp)]; exact h6⟩
  show shM j D' (if j = k then s else sh j)
  by_cases e : j = k
  · rw [if_pos e, e]
    exact hs
  · rw [if_neg e]
    obtain ⟨g1, g2, g3⟩ := ho j hj e
    have h4 : shM j D (sh j) := h4 j hj
    have h60 : ∀ la n f, sh j = some (la, n, f) → n ≤ 60 := fun la n f e => (hz.2.2.2.2 j hj la n f e).2
    match he : sh j, h4 with
    | none, h4 => exact g1.trans h4
    | some (la, n, f), h4 =>
      have hn := h60 la n f he
      exact ⟨g1.trans h4.1, g2.trans h4.2.1, fun i hi => (g3 i (by omega)).trans (h4.2.2 i hi)⟩
theorem okZ_sh {S : SH} {rd : Nat × (Nat → Nat) × (Nat → Nat)} {sh : Nat → Option (Nat × Nat × (Nat → Int32))} {tr fl fl' : Int32} {k : Nat} {s : Option (Nat × Nat × (Nat → Int32))} (hz : okZ (S, rd, sh, tr, fl)) (hs : ∀ la n f, s = some (la, n, f) → la < 3 ∧ n ≤ 60) : okZ (S, rd, setH sh k s, tr, fl') := by
  refine ⟨hz.1, hz.2.1, hz.2.2.1, hz.2.2.2.1, fun j hj la n f e => ?_⟩
  have e : (if j = k then s else sh j) = some (la, n, f) := e
  by_cases e1 : j = k
  · rw [if_pos e1] at e
    exact hs la n f e
  · rw [if_neg e1] at e
    exact hz.2.2.2.2 j hj la n f e
theorem okZ_fl {S : SH} {rd : Nat × (Nat → Nat) × (Nat → Nat)} {sh : Nat → Option (Nat × Nat × (Nat → Int32))} {tr fl fl' : Int32} (hz : okZ (S, rd, sh, tr, fl)) : okZ (S, rd, sh, tr, fl') := hz
theorem c_renew {L d k n : Nat} {la : Int32} {D : m_D} {Q : m_K} (hk : k < 4) (h : ∀ D', (∀ a, a ≠ 24 + 2 * k → a ≠ 25 + 2 * k → D' a = D a) → D' (24 + 2 * k) 1 = 1 → D' (24 + 2 * k) 2 = la → D' (24 + 2 * k) 3 = nI n → (∀ i, i < 60 → D' (25 + 2 * k) i = 0) → Q none D') : m_call L (d + 2) 6 [.ref (24 + 2 * k), .int la, .int (nI n)] D Q := by
  have hk4 : k = 0 ∨ k = 1 ∨ k = 2 ∨ k = 3 := by omega
  rcases hk4 with rfl | rfl | rfl | rfl
  all_goals
    refine v_in (tb' := t_X1_renew) (rk' := 0) rfl rfl rfl ?_
    refine v_go rfl ?_
    refine v_ca rfl ?_
    refine c_fill (n := 60) (by simp) (fun D1 hf1 h0 => ?_)
    refine v_go rfl ?_
    refine v_sd rfl (Or.inr rfl) ?_
    refine v_go rfl ?_
    refine v_rt rfl trivial (h _ (fun a ha hb => ?_) rfl rfl rfl h0)
    rw [m_up_ne ha, m_up_ne ha, m_up_ne ha]
    exact hf1 a (by simpa using hb)
theorem c_noSheet {L d : Nat} {x : Int32} {D : m_D} {Q : m_K} (h0 : vp_in x 4 → Q (some (.int 0)) D) (h1 : ¬ vp_in x 4 → Q (some (.int 1)) D) : m_call L (d + 2) 151 [.int x] D Q := by
  have hg : (3 : Int64).toInt = ((4 : Nat) : Int) - 1 := by decide
  refine v_in (tb' := t_X5_noSheet) (rk' := 2) rfl rfl rfl ?_
  refine v_go rfl ?_
  refine v_ca rfl ?_
  refine c_in (fun a b => ?_) (fun a => ?_)
  · refine v_go rfl ?_
    refine v_bT rfl (by decide) ?_
    exact v_go rfl (v_rt rfl (Or.inl rfl) (h0 ((in_iff hg).mp ⟨a, b⟩)))
  · refine v_go rfl ?_
    refine v_bF rfl (by decide) ?_
    exact v_go rfl (v_rt rfl (Or.inr rfl) (h1 (fun z => a ((in_iff hg).mpr z))))
theorem s_sheet (x y w : Int32) : StepI 65 152 [.int x, .int y, .int w] := by
  intro L Z hz
  obtain ⟨S, rd, sh, tr, fl⟩ := Z
  have hg : (2 : Int64).toInt = ((3 : Nat) : Int) - 1 := by decide
  by_cases hx : vp_in x 4
  · by_cases hy : vp_in y 3 ∧ w ≤ 60
    · obtain ⟨hy, hw⟩ := hy
      by_cases hw0 : w < 0
      · refine ⟨-14, (S, rd, sh, tr, 4), hz, fun D Q hI h => ?_, fun D Q hI h => ?_⟩
        · refine v_in (tb' := t_X4_sheet) (rk' := 1) rfl rfl rfl ?_
          refine v_go rfl ?_
          refine v_ca rfl ?_
          refine c_isSheet (fun _ => ?_) (fun z => absurd hx z)
          refine v_go rfl ?_
          refine v_bT rfl (by decide) ?_
          refine v_go rfl ?_
          refine v_ca rfl ?_
          refine c_isLane (fun _ => ?_) (fun z => absurd hy z)
          refine v_go rfl ?_
          refine v_bF rfl (by decide) ?_
          refine v_go rfl ?_
          refine v_bT rfl hw ?_
          refine v_go rfl ?_
          refine v_bF rfl (Int32.not_le.mpr hw0) ?_
          refine v_go rfl ?_
          refine v_ca rfl ?_
          refine c_faulted ?_
          rw [m_up_ii]
          exact v_rt rfl trivial (h _ ((frC.refl _).up (by omega)) (InvC_fl _ hI))
        · refine v_in (tb' := t_X5_sheet) (rk' := 1) rfl rfl rfl ?_
          refine v_go rfl ?_
          refine v_ca rfl ?_
          refine c_noSheet (fun _ => ?_) (fun z => absurd hx z)
          refine v_go rfl ?_
          refine v_bT rfl (by decide) ?_
          refine v_go rfl ?_
          refine v_ca rfl ?_
          refine c_in (fun _ _ => ?_) (fun z => absurd ((in_iff hg).mpr hy) z)
          refine v_go rfl ?_
          refine v_bF rfl (by decide) ?_
          refine v_go rfl ?_
          refine v_bT rfl hw ?_
          refine v_go rfl ?_
          refine v_bF rfl (Int32.not_le.mpr hw0) ?_
          refine v_go rfl ?_
          refine v_ca rfl ?_
          refine c_failed ?_
          exact v_rt rfl trivial (h _ ((frM.refl _).up (by omega)) (InvM_fl _ hI))
      · have hw61 : vp_in w 61 := (vw_iff (n := 60) (by omega)).mpr ⟨hw0, Int32.not_lt.mpr hw⟩
        have hw00 : 0 ≤ w := Int32.not_lt.mp hw0
        obtain ⟨k, hk, rfl⟩ := vp_in_of hx (by omega)
        obtain ⟨la, hla, rfl⟩ := vp_in_of hy (by omega)
        obtain ⟨n, hn, rfl⟩ := vp_in_of hw61 (by omega)
        refine ⟨1, (S, rd, setH sh k (some (la, n, fun _ => 0)), tr, 0), okZ_sh hz (fun a b c e => by cases e; omega), fun D Q hI h => ?_, fun D Q hI h => ?_⟩
        · refine v_in (tb' := t_X4_sheet) (rk' := 1) rfl rfl rfl ?_
          refine v_go rfl ?_
          refine v_ca rfl ?_
          refine c_isSheet (fun _ => ?_) (fun z => absurd hx z)
          refine v_go rfl ?_
          refine v_bT rfl (by decide) ?_
          refine v_go rfl ?_
          refine v_ca rfl ?_
          refine c_isLane (fun _ => ?_) (fun z => absurd hy z)
          refine v_go rfl ?_
          refine v_bF rfl (by decide) ?_
          refine v_go rfl ?_
          refine v_bT rfl hw ?_
          refine v_go rfl ?_
          refine v_bT rfl hw00 ?_
          refine v_go rfl ?_
          refine v_al rfl hx (fun q hq => ?_)
          have hq := al_q hk hq
          subst hq
          refine v_go rfl ?_
          have hk4 : k = 0 ∨ k = 1 ∨ k = 2 ∨ k = 3 := by omega
          have hren : m_call L 7 6 [.ref (24 + 2 * k), .int (nI la), .int (nI n)] (m_up D 0 9 0) (fun r D' => m_V L 7 Q t_X4_sheet 1 (m_beh 51 [some (.ref 0), some (.int (nI k)), some (.int (nI la)), some (.int (nI n))] [] r D')) := by
            refine c_renew hk (fun D2 hf2 q1 q2 q3 q4 => ?_)
            refine v_go rfl ?_
            refine v_rt rfl trivial (h D2 (fun a ha => ?_) ?_)
            · rw [hf2 a (by omega) (by omega), m_up_ne (by omega)]
            · exact InvC_sh (fl := 0) (D := m_up D 0 9 0) _ (InvC_fl 0 hI) hk (fun a _ hb hc => hf2 a hb hc) ⟨q1, q2, q3, fun i hi => q4 i (by omega)⟩
          rcases hk4 with rfl | rfl | rfl | rfl
          all_goals
            refine v_ca rfl ?_
            exact hren
        · have hck : (nI k).toNatClampNeg = k := nI_clamp (by omega)
          have e60 : (60 : Int32) * nI k = nI (60 * k) := by rw [show (60 : Int32) = nI 60 from rfl, pk_mul]
          refine v_in (tb' := t_X5_sheet) (rk' := 1) rfl rfl rfl ?_
          refine v_go rfl ?_
          refine v_ca rfl ?_
          refine c_noSheet (fun _ => ?_) (fun z => absurd hx z)
          refine v_go rfl ?_
          refine v_bT rfl (by decide) ?_
          refine v_go rfl ?_
          refine v_ca rfl ?_
          refine c_in (fun _ _ => ?_) (fun z => absurd ((in_iff hg).mpr hy) z)
          refine v_go rfl ?_
          refine v_bF rfl (by decide) ?_
          refine v_go rfl ?_
          refine v_bT rfl hw ?_
          refine v_go rfl ?_
          refine v_bT rfl hw00 ?_
          refine v_go rfl ?_
          refine v_sd rfl hx ?_
          rw [hck]
          refine v_go rfl ?_
          refine v_sd rfl hx ?_
          rw [hck]
          have key : ∀ (m i : Nat) (D1 : m_D), i + m = n → m_fM [58] [] (m_up (m_up D 56 k (nI n)) 57 k (nI la)) D1 → (∀ j, j < i → D1 58 (60 * k + j) = 0) → (∀ j, (j < 60 * k ∨ 60 * k + 60 ≤ j) → D1 58 j = D 58 j) → m_V L 7 Q t_X5_sheet 1 (65, [some (.ref 34), some (.int (nI k)), some (.int (nI la)), some (.int (nI n)), some (.int (nI i))], [], D1) := by
            intro m
            induction m with
            | zero =>
              intro i D1 hi hf h0 ho
              have hi : i = n := by omega
              subst hi
              refine v_go rfl ?_
              refine v_bT rfl (Int32.le_refl _) ?_
              refine v_go rfl ?_
              refine v_ca rfl ?_
              refine c_refused ?_
              have e56 : D1 56 = m_up (m_up D 56 k (nI i)) 57 k (nI la) 56 := hf.1 56 (by simp) (by omega)
              have e57 : D1 57 = m_up (m_up D 56 k (nI i)) 57 k (nI la) 57 := hf.1 57 (by simp) (by omega)
              have ecell : ∀ a, a ≠ 58 → a ≠ 34 → a ≠ 56 → a ≠ 57 → D1 a = D a := fun a h1 h2 h3 h4 => by
                rw [hf.1 a (by simpa using h1) h2, m_up_ne h4, m_up_ne h3]
              have efld : ∀ j, D1 34 j = D 34 j := fun j => hf.2 j (by simp)
              refine v_rt rfl trivial (h _ (fun a ha => ?_) ?_)
              · rw [m_up_ne (by omega)]
                exact ecell a (by omega) (by omega) (by omega) (by omega)
              · refine InvM_fl (fl := fl) 0 (InvM_sh _ hz hI hk (fun a ha => ecell a (by omega) (by omega) (by omega) (by omega)) (fun j _ => efld j) (fun j hj hjk => ⟨?_, ?_, fun b hb => ho _ (by omega)⟩) ⟨?_, ?_, fun b hb => h0 b hb⟩)
                · rw [e56]
                  show upd (D 56) k _ j = _
                  rw [pk_un hjk]
                · rw [e57]
                  show upd (D 57) k _ j = _
                  rw [pk_un hjk]
                · rw [e56]
                  exact pk_us
                · rw [e57]
                  exact pk_us
            | succ m ih =>
              intro i D1 hi hf h0 ho
              have hin2 : vp_in (nI (60 * k + i)) 240 := vp_in_nI (by omega) (by omega)
              have hc2 : (nI (60 * k + i)).toNatClampNeg = 60 * k + i := nI_clamp (by omega)
              have ih := ih (i + 1) (m_up D1 58 (60 * k + i) 0) (by omega) (hf.up (by simp) (by decide)) (fun j hj => by
                by_cases e : j = i
                · rw [e, m_up_s]
                · rw [m_up_n (by omega)]
                  exact h0 j (by omega)) (fun j hj => by
                rw [m_up_n (by omega)]
                exact ho j hj)
              rw [← nI_1] at ih
              refine v_go rfl ?_
              refine v_bF rfl (nI_ge (by omega) (by omega)) ?_
              refine v_go rfl ?_
              rw [e60, nI_add]
              refine v_sd rfl hin2 ?_
              rw [hc2]
              exact v_run 2 rfl ih
          exact v_run 2 rfl (key n 0 _ (by omega) (m_fM.refl _ _ _) (fun j hj => absurd hj (by omega)) (fun j _ => rfl))
    · refine ⟨-2, (S, rd, sh, tr, 0), hz, fun D Q hI h => ?_, fun D Q hI h => ?_⟩
      · refine v_in (tb' := t_X4_sheet) (rk' := 1) rfl rfl rfl ?_
        refine v_go rfl ?_
        refine v_ca rfl ?_
        refine c_isSheet (fun _ => ?_) (fun z => absurd hx z)
        refine v_go rfl ?_
        refine v_bT rfl (by decide) ?_
        refine v_go rfl ?_
        refine v_ca rfl ?_
        refine c_isLane (fun hy1 => ?_) (fun hy1 => ?_)
        · refine v_go rfl ?_
          refine v_bF rfl (by decide) ?_
          refine v_go rfl ?_
          refine v_bF rfl (fun z => hy ⟨hy1, z⟩) ?_
          exact v_go rfl (v_rt rfl trivial (h _ ((frC.refl _).up (by omega)) (InvC_fl _ hI)))
        · refine v_go rfl ?_
          refine v_bT rfl (by decide) ?_
          exact v_go rfl (v_rt rfl trivial (h _ ((frC.refl _).up (by omega)) (InvC_fl _ hI)))
      · refine v_in (tb' := t_X5_sheet) (rk' := 1) rfl rfl rfl ?_
        refine v_go rfl ?_
        refine v_ca rfl ?_
        refine c_noSheet (fun _ => ?_) (fun z => absurd hx z)
        refine v_go rfl ?_
        refine v_bT rfl (by decide) ?_
        refine v_go rfl ?_
        refine v_ca rfl ?_
        refine c_in (fun a b => ?_) (fun _ => ?_)
        · refine v_go rfl ?_
          refine v_bF rfl (by decide) ?_
          refine v_go rfl ?_
          refine v_bF rfl (fun z => hy ⟨(in_iff hg).mp ⟨a, b⟩, z⟩) ?_
          refine v_go rfl ?_
          refine v_ca rfl ?_
          refine c_refused ?_
          exact v_rt rfl trivial (h _ ((frM.refl _).up (by omega)) (InvM_fl _ hI))
        · refine v_go rfl ?_
          refine v_bT rfl (by decide) ?_
          refine v_go rfl ?_
          refine v_ca rfl ?_
          refine c_refused ?_
          exact v_rt rfl trivial (h _ ((frM.refl _).up (by omega)) (InvM_fl _ hI))
  · refine ⟨-1, (S, rd, sh, tr, 0), hz, fun D Q hI h => ?_, fun D Q hI h => ?_⟩
    · refine v_in (tb' := t_X4_sheet) (rk' := 1) rfl rfl rfl ?_
      refine v_go rfl ?_
      refine v_ca rfl ?_
      refine c_isSheet (fun z => absurd z hx) (fun _ => ?_)
      refine v_go rfl ?_
      refine v_bF rfl (by decide) ?_
      exact v_go rfl (v_rt rfl trivial (h _ ((frC.refl _).up (by omega)) (InvC_fl _ hI)))
    · refine v_in (tb' := t_X5_sheet) (rk' := 1) rfl rfl rfl ?_
      refine v_go rfl ?_
      refine v_ca rfl ?_
      refine c_noSheet (fun z => absurd z hx) (fun _ => ?_)
      refine v_go rfl ?_
      refine v_bF rfl (by decide) ?_
      refine v_go rfl ?_
      refine v_ca rfl ?_
      refine c_refused ?_
      exact v_rt rfl trivial (h _ ((frM.refl _).up (by omega)) (InvM_fl _ hI))
theorem s_lose (x : Int32) : StepI 66 153 [.int x] := by
  intro L Z hz
  obtain ⟨S, rd, sh, tr, fl⟩ := Z
  by_cases hx : vp_in x 4
  · obtain ⟨k, hk, rfl⟩ := vp_in_of hx (by omega)
    have hck : (nI k).toNatClampNeg = k := nI_clamp (by omega)
    have hk4 : k = 0 ∨ k = 1 ∨ k = 2 ∨ k = 3 := by omega
    refine ⟨if sh k = none then 0 else 1, (S, rd, setH sh k none, tr, fl), okZ_sh hz (fun a b c e => by cases e), fun D Q hI h => ?_, fun D Q hI h => ?_⟩
    · have hsk : shC k D (sh k) := hI.2.2.2.1 k hk
      have hfin : frC D (m_up D (24 + 2 * k) 1 0) := (frC.refl _).up (by omega)
      have hI' : InvC (S, rd, setH sh k none, tr, fl) (m_up D (24 + 2 * k) 1 0) := InvC_sh _ hI hk (fun a _ hb _ => m_up_ne hb) m_up_s
      have h := h _ hfin hI'
      refine v_in (tb' := t_X4_lose) (rk' := 1) rfl rfl rfl ?_
      refine v_go rfl ?_
      refine v_ca rfl ?_
      refine c_isSheet (fun _ => ?_) (fun z => absurd hx z)
      refine v_go rfl ?_
      refine v_bT rfl (by decide) ?_
      refine v_go rfl ?_
      refine v_al rfl hx (fun q hq => ?_)
      have hq := al_q hk hq
      subst hq
      cases hs : sh k with
      | none =>
        rw [hs] at hsk
        rw [if_pos hs] at h
        rcases hk4 with rfl | rfl | rfl | rfl
        all_goals
          refine v_go rfl ?_
          refine v_bT rfl hsk ?_
          refine v_go rfl ?_
          refine v_al rfl hx (fun q hq => ?_)
          have hq := al_q hk hq
          subst hq
          refine v_go rfl ?_
          refine v_sd rfl (Or.inl rfl) ?_
          refine v_go rfl ?_
          exact v_rt rfl trivial h
      | some s =>
        obtain ⟨la, n, f⟩ := s
        rw [hs] at hsk
        rw [if_neg (by rw [hs]; exact fun z => by cases z)] at h
        have hne : ¬ D (24 + 2 * k) 1 = 0 := by rw [hsk.1]; decide
        rcases hk4 with rfl | rfl | rfl | rfl
        all_goals
          refine v_go rfl ?_
          refine v_bF rfl hne ?_
          refine v_go rfl ?_
          refine v_al rfl hx (fun q hq => ?_)
          have hq := al_q hk hq
          subst hq
          refine v_go rfl ?_
          refine v_sd rfl (Or.inl rfl) ?_
          refine v_go rfl ?_
          exact v_rt rfl trivial h
    · have hsk : shM k D (sh k) := hI.2.2.2.1 k hk
      have hI' : InvM (S, rd, setH sh k none, tr, fl) (m_up D 56 k (-1)) := InvM_sh _ hz hI hk (fun a ha => m_up_ne (by omega)) (fun _ _ => rfl) (fun j hj hjk => ⟨m_up_n hjk, rfl, fun _ _ => rfl⟩) m_up_s
      have h := h _ ((frM.refl _).up (by omega)) hI'
      refine v_in (tb' := t_X5_lose) (rk' := 1) rfl rfl rfl ?_
      refine v_go rfl ?_
      refine v_ca rfl ?_
      refine c_noSheet (fun _ => ?_) (fun z => absurd hx z)
      refine v_go rfl ?_
      refine v_bT rfl (by decide) ?_
      refine v_go rfl ?_
      refine v_sd rfl hx ?_
      rw [hck]
      cases hs : sh k with
      | none =>
        rw [hs] at hsk
        rw [if_pos hs] at h
        have hsk : D 56 k = -1 := hsk
        rw [hsk]
        refine v_bF rfl (by decide) ?_
        refine v_go rfl ?_
        refine v_sd rfl hx ?_
        rw [hck]
        refine v_go rfl ?_
        exact v_rt rfl trivial h
      | some s =>
        obtain ⟨la, n, f⟩ := s
        rw [hs] at hsk
        rw [if_neg (by rw [hs]; exact fun z => by cases z)] at h
        have hn60 : n ≤ 60 := (hz.2.2.2.2 k hk la n f hs).2
        rw [hsk.1]
        refine v_bT rfl (nI_pos' (by omega)) ?_
        refine v_go rfl ?_
        refine v_sd rfl hx ?_
        rw [hck]
        refine v_go rfl ?_
        exact v_rt rfl trivial h
  · refine ⟨-1, (S, rd, sh, tr, fl), hz, fun D Q hI h => ?_, fun D Q hI h => ?_⟩
    · refine v_in (tb' := t_X4_lose) (rk' := 1) rfl rfl rfl ?_
      refine v_go rfl ?_
      refine v_ca rfl ?_
      refine c_isSheet (fun z => absurd z hx) (fun _ => ?_)
      refine v_go rfl ?_
      refine v_bF rfl (by decide) ?_
      exact v_go rfl (v_rt rfl trivial (h _ (frC.refl _) hI))
    · refine v_in (tb' := t_X5_lose) (rk' := 1) rfl rfl rfl ?_
      refine v_go rfl ?_
      refine v_ca rfl ?_
      refine c_noSheet (fun z => absurd z hx) (fun _ => ?_)
      refine v_go rfl ?_
      refine v_bF rfl (by decide) ?_
      exact v_go rfl (v_rt rfl trivial (h _ (frM.refl _) hI))
end
section
/-! ===== put, cell ===== -/
def cutI (la : Nat) (v : Int32) : Int32 := if la = 0 then v.toInt8.toInt32 else if la = 1 then v.toInt16.toInt32 else v
theorem c_cut {L d k la : Nat} {v : Int32} {D : m_D} {Q : m_K} (hk : k < 4) (hl : D (24 + 2 * k) 2 = nI la) (h3 : la < 3) (h : Q (some (.int (cutI la v))) D) : m_call L (d + 1) 10 [.ref (24 + 2 * k), .int v] D Q := by
  have hk4 : k = 0 ∨ k = 1 ∨ k = 2 ∨ k = 3 := by omega
  rcases hk4 with rfl | rfl | rfl | rfl
  all_goals
    refine v_in (tb' := t_X1_cut) (rk' := 1) rfl rfl rfl ?_
    refine v_go rfl ?_
    refine Eq.mp (congrArg (fun z => m_V L d Q t_X1_cut 1 (4, _, [.int z], D)) hl.symm) ?_
    refine v_sw rfl ?_
    match la, h3, h with
    | 0, _, h =>
      refine br_c (fun _ => ?_) (fun z => absurd (by decide) z)
      exact v_go rfl (v_rt rfl trivial h)
    | 1, _, h =>
      refine br_c (fun z => absurd z (by decide)) (fun _ => ?_)
      refine br_c (fun _ => ?_) (fun z => absurd (by decide) z)
      exact v_go rfl (v_rt rfl trivial h)
    | 2, _, h =>
      refine br_c (fun z => absurd z (by decide)) (fun _ => ?_)
      refine br_c (fun z => absurd z (by decide)) (fun _ => ?_)
      exact v_go rfl (v_rt rfl trivial h)
theorem c_hasCell {L d k n : Nat} {x : Int32} {D : m_D} {Q : m_K} (hk : k < 4) (hn : D (24 + 2 * k) 3 = nI n) (h60 : n ≤ 60) (h1 : vp_in x n → Q (some (.int 1)) D) (h0 : ¬ vp_in x n → Q (some (.int 0)) D) : m_call L (d + 1) 8 [.ref (24 + 2 * k), .int x] D Q := by
  rw [vi_iff (by omega)] at h1 h0
  have hk4 : k = 0 ∨ k = 1 ∨ k = 2 ∨ k = 3 := by omega
  rcases hk4 with rfl | rfl | rfl | rfl
  all_goals
    refine v_in (tb' := t_X1_hasCell) (rk' := 2) rfl rfl rfl ?_
    refine v_go rfl ?_
    refine v_br rfl (fun z => ?_) (fun z => ?_)
    · exact v_go rfl (v_rt rfl (Or.inl rfl) (h0 (fun y => y.1 z)))
    · refine v_go rfl ?_
      refine v_br rfl (fun z2 => ?_) (fun z2 => ?_)
      · exact v_go rfl (v_rt rfl (Or.inl rfl) (h0 (fun y => y.2 (hn ▸ z2))))
      · exact v_go rfl (v_rt rfl (Or.inr rfl) (h1 ⟨z, fun y => z2 (hn.symm ▸ y)⟩))
theorem c_noCell {L d k : Nat} {x : Int32} {s : Option (Nat × Nat × (Nat → Int32))} {D : m_D} {Q : m_K} (hk : k < 4) (hs : shM k D s) (h60 : ∀ la n f, s = some (la, n, f) → n ≤ 60) (hn : s = none → Q (some (.int 1)) D) (h0 : ∀ la n f, s = some (la, n, f) → vp_in x n → Q (some (.int 0)) D) (h3 : ∀ la n f, s = some (la, n, f) → ¬ vp_in x n → Q (some (.int 3)) D) : m_call L (d + 2) 154 [.ref 34, .int (nI k), .int x] D Q := by
  have hck : (nI k).toNatClampNeg = k := nI_clamp (by omega)
  have hin : vp_in (nI k) 4 := vp_in_nI (by omega) (by omega)
  refine v_in (tb' := t_X5_noCell) (rk' := 1) rfl rfl rfl ?_
  refine v_go rfl ?_
  refine v_sd rfl hin ?_
  rw [hck]
  match s, hs, h60, hn, h0, h3 with
  | none, hs, _, hn, _, _ =>
    have hs : D 56 k = -1 := hs
    rw [hs]
    refine v_bF rfl (by decide) ?_
    exact v_go rfl (v_rt rfl trivial (hn rfl))
  | some (la, n, f), hs, h60, _, h0, h3 =>
    have hn60 := h60 la n f rfl
    have e56 : D 56 k = nI n := hs.1
    rw [e56]
    refine v_bT rfl (nI_pos' (by omega)) ?_
    refine v_go rfl ?_
    refine v_sd rfl hin ?_
    rw [hck, e56]
    refine v_go rfl ?_
    refine v_ca rfl ?_
    refine c_in (fun a b => ?_) (fun a => ?_)
    · refine v_go rfl ?_
      refine v_bF rfl (by decide) ?_
      exact v_go rfl (v_rt rfl trivial (h0 la n f rfl ((in_iff (in_n1 (by omega))).mp ⟨a, b⟩)))
    · refine v_go rfl ?_
      refine v_bT rfl (by decide) ?_
      exact v_go rfl (v_rt rfl trivial (h3 la n f rfl (fun z => a ((in_iff (in_n1 (by omega))).mpr z))))
theorem s_put (x y w : Int32) : StepI 67 155 [.int x, .int y, .int w] := by
  intro L Z hz
  obtain ⟨S, rd, sh, tr, fl⟩ := Z
  by_cases hx : vp_in x 4
  · obtain ⟨k, hk, rfl⟩ := vp_in_of hx (by omega)
    have hck : (nI k).toNatClampNeg = k := nI_clamp (by omega)
    have hk4 : k = 0 ∨ k = 1 ∨ k = 2 ∨ k = 3 := by omega
    have h60 : ∀ la n f, sh k = some (la, n, f) → n ≤ 60 := fun la n f e => (hz.2.2.2.2 k hk la n f e).2
    cases hs : sh k with
    | none =>
      refine ⟨-11, (S, rd, sh, tr, 1), hz, fun D Q hI h => ?_, fun D Q hI h => ?_⟩
      · have hsk : shC k (m_up D 0 9 0) (sh k) := (InvC_fl 0 hI).2.2.2.1 k hk
        rw [hs] at hsk
        have h := h (m_up D 0 9 1) ((frC.refl _).up (by omega)) (InvC_fl _ hI)
        refine v_in (tb' := t_X4_put) (rk' := 1) rfl rfl rfl ?_
        refine v_go rfl ?_
        refine v_ca rfl ?_
        refine c_isSheet (fun _ => ?_) (fun z => absurd hx z)
        refine v_go rfl ?_
        refine v_bT rfl (by decide) ?_
        refine v_go rfl ?_
        refine v_al rfl hx (fun q hq => ?_)
        have hq := al_q hk hq
        subst hq
        rcases hk4 with rfl | rfl | rfl | rfl
        all_goals
          refine v_go rfl ?_
          refine v_bF rfl (fun z => z hsk) ?_
          refine v_go rfl ?_
          refine v_ca rfl ?_
          refine c_faulted ?_
          rw [m_up_ii]
          exact v_rt rfl trivial h
      · have hsk : shM k D (sh k) := hI.2.2.2.1 k hk
        refine v_in (tb' := t_X5_put) (rk' := 1) rfl rfl rfl ?_
        refine v_go rfl ?_
        refine v_ca rfl ?_
        refine c_noSheet (fun _ => ?_) (fun z => absurd hx z)
        refine v_go rfl ?_
        refine v_bT rfl (by decide) ?_
        refine v_go rfl ?_
        refine v_ca rfl ?_
        refine c_noCell hk hsk h60 (fun _ => ?_) (fun la n f e => by rw [hs] at e; cases e) (fun la n f e => by rw [hs] at e; cases e)
        refine v_go rfl ?_
        refine v_bF rfl (by decide) ?_
        refine v_go rfl ?_
        refine v_ca rfl ?_
        refine c_noCell hk hsk h60 (fun _ => ?_) (fun la n f e => by rw [hs] at e; cases e) (fun la n f e => by rw [hs] at e; cases e)
        refine v_go rfl ?_
        refine v_ca rfl ?_
        refine c_failed ?_
        exact v_rt rfl trivial (h _ ((frM.refl _).up (by omega)) (InvM_fl _ hI))
    | some s0 =>
      obtain ⟨la, n, f⟩ := s0
      have hn60 := h60 la n f hs
      have hla : la < 3 := (hz.2.2.2.2 k hk la n f hs).1
      by_cases hy : vp_in y n
      · obtain ⟨i, hi, rfl⟩ := vp_in_of hy (by omega)
        have hci : (nI i).toNatClampNeg = i := nI_clamp (by omega)
        have hin60 : vp_in (nI i) 60 := vp_in_nI (by omega) (by omega)
        refine ⟨1, (S, rd, setH sh k (some (la, n, upd f i (cutI la w))), tr, 0), okZ_sh hz (fun a b c e => by cases e; omega), fun D Q hI h => ?_, fun D Q hI h => ?_⟩
        · have hI0 := InvC_fl 0 hI
          have hsk : shC k (m_up D 0 9 0) (sh k) := hI0.2.2.2.1 k hk
          rw [hs] at hsk
          obtain ⟨k1, k2, k3, k4⟩ := hsk
          have h := h (m_up (m_up D 0 9 0) (25 + 2 * k) i (cutI la w)) (((frC.refl _).up (by omega)).up (by omega)) (InvC_sh _ hI0 hk (fun a _ _ hc => m_up_ne hc) ⟨by rw [m_up_ne (by omega)]; exact k1, by rw [m_up_ne (by omega)]; exact k2, by rw [m_up_ne (by omega)]; exact k3, fun j hj => by
            rw [m_up_at]
            by_cases e : j = i
            · rw [e, pk_us, pk_us]
            · rw [pk_un e, pk_un e]
              exact k4 j hj⟩)
          refine v_in (tb' := t_X4_put) (rk' := 1) rfl rfl rfl ?_
          refine v_go rfl ?_
          refine v_ca rfl ?_
          refine c_isSheet (fun _ => ?_) (fun z => absurd hx z)
          refine v_go rfl ?_
          refine v_bT rfl (by decide) ?_
          refine v_go rfl ?_
          refine v_al rfl hx (fun q hq => ?_)
          have hq := al_q hk hq
          subst hq
          have hne : ¬ m_up D 0 9 0 (24 + 2 * k) 1 = 0 := by rw [k1]; decide
          have hk0 := hk
          rcases hk4 with rfl | rfl | rfl | rfl
          all_goals
            refine v_go rfl ?_
            refine v_bT rfl hne ?_
            refine v_go rfl ?_
            refine v_ca rfl ?_
            refine c_hasCell hk0 k3 hn60 (fun _ => ?_) (fun z => absurd hy z)
            refine v_go rfl ?_
            refine v_bT rfl (by decide) ?_
            refine v_go rfl ?_
            refine v_ca rfl ?_
            refine c_cut hk0 k2 hla ?_
            refine v_sd rfl hin60 ?_
            rw [hci]
            refine v_go rfl ?_
            exact v_rt rfl trivial h
        · have hsk : shM k D (sh k) := hI.2.2.2.1 k hk
          have hsk2 := hsk
          rw [hs] at hsk2
          obtain ⟨k1, k2, k3⟩ := hsk2
          have e60 : (60 : Int32) * nI k + nI i = nI (60 * k + i) := by rw [show (60 : Int32) = nI 60 from rfl, pk_mul, nI_add]
          have hin2 : vp_in (nI (60 * k + i)) 240 := vp_in_nI (by omega) (by omega)
          have hc2 : (nI (60 * k + i)).toNatClampNeg = 60 * k + i := nI_clamp (by omega)
          have fin : m_V L 7 Q t_X5_put 1 (73, [some (.ref 34), some (.int (nI k)), some (.int (nI i)), some (.int w)], [.int (cutI la w), .int (nI (60 * k + i)), .ref 58], D) := by
            refine v_go rfl ?_
            refine v_sd rfl hin2 ?_
            rw [hc2]
            refine v_go rfl ?_
            refine v_ca rfl ?_
            refine c_refused ?_
            refine v_rt rfl trivial (h _ (((frM.refl _).up (by omega)).up (by omega)) (InvM_fl (fl := fl) 0 (InvM_sh _ hz hI hk (fun a ha => m_up_ne (by omega)) (fun _ _ => rfl) (fun j hj hjk => ⟨rfl, rfl, fun b hb => m_up_n (by omega)⟩) ⟨k1, k2, fun j hj => ?_⟩)))
            rw [m_up_at]
            by_cases e : j = i
            · rw [e, pk_us, pk_us]
            · rw [pk_un (by omega), pk_un e]
              exact k3 j hj
          refine v_in (tb' := t_X5_put) (rk' := 1) rfl rfl rfl ?_
          refine v_go rfl ?_
          refine v_ca rfl ?_
          refine c_noSheet (fun _ => ?_) (fun z => absurd hx z)
          refine v_go rfl ?_
          refine v_bT rfl (by decide) ?_
          refine v_go rfl ?_
          refine v_ca rfl ?_
          refine c_noCell hk hsk h60 (fun e => by rw [hs] at e; cases e) (fun a b c e _ => ?_) (fun a b c e z => by rw [hs] at e; cases e; exact absurd hy z)
          refine v_go rfl ?_
          refine v_bT rfl (by decide) ?_
          refine v_go rfl ?_
          rw [e60]
          refine v_sd rfl hx ?_
          rw [hck, k2]
          match la, hla, fin, k2 with
          | 0, _, fin, _ =>
            refine v_bF rfl (fun z => z rfl) ?_
            exact v_run 3 rfl fin
          | 1, _, fin, k2 =>
            refine v_bT rfl (by decide) ?_
            refine v_go rfl ?_
            refine v_sd rfl hx ?_
            rw [hck, k2]
            refine v_go rfl ?_
            refine v_bF rfl (fun z => z rfl) ?_
            exact v_run 3 rfl fin
          | 2, _, fin, k2 =>
            refine v_bT rfl (by decide) ?_
            refine v_go rfl ?_
            refine v_sd rfl hx ?_
            rw [hck, k2]
            refine v_go rfl ?_
            refine v_bT rfl (by decide) ?_
            exact v_run 1 rfl fin
      · refine ⟨-13, (S, rd, sh, tr, 3), hz, fun D Q hI h => ?_, fun D Q hI h => ?_⟩
        · have hsk : shC k (m_up D 0 9 0) (sh k) := (InvC_fl 0 hI).2.2.2.1 k hk
          rw [hs] at hsk
          obtain ⟨k1, k2, k3, k4⟩ := hsk
          have h := h (m_up D 0 9 3) ((frC.refl _).up (by omega)) (InvC_fl _ hI)
          have hne : ¬ m_up D 0 9 0 (24 + 2 * k) 1 = 0 := by rw [k1]; decide
          have hk0 := hk
          refine v_in (tb' := t_X4_put) (rk' := 1) rfl rfl rfl ?_
          refine v_go rfl ?_
          refine v_ca rfl ?_
          refine c_isSheet (fun _ => ?_) (fun z => absurd hx z)
          refine v_go rfl ?_
          refine v_bT rfl (by decide) ?_
          refine v_go rfl ?_
          refine v_al rfl hx (fun q hq => ?_)
          have hq := al_q hk hq
          subst hq
          rcases hk4 with rfl | rfl | rfl | rfl
          all_goals
            refine v_go rfl ?_
            refine v_bT rfl hne ?_
            refine v_go rfl ?_
            refine v_ca rfl ?_
            refine c_hasCell hk0 k3 hn60 (fun z => absurd z hy) (fun _ => ?_)
            refine v_go rfl ?_
            refine v_bF rfl (by decide) ?_
            refine v_go rfl ?_
            refine v_ca rfl ?_
            refine c_faulted ?_
            rw [m_up_ii]
            exact v_rt rfl trivial h
        · have hsk : shM k D (sh k) := hI.2.2.2.1 k hk
          refine v_in (tb' := t_X5_put) (rk' := 1) rfl rfl rfl ?_
          refine v_go rfl ?_
          refine v_ca rfl ?_
          refine c_noSheet (fun _ => ?_) (fun z => absurd hx z)
          refine v_go rfl ?_
          refine v_bT rfl (by decide) ?_
          refine v_go rfl ?_
          refine v_ca rfl ?_
          refine c_noCell hk hsk h60 (fun e => by rw [hs] at e; cases e) (fun a b c e z => by rw [hs] at e; cases e; exact absurd z hy) (fun a b c e _ => ?_)
          refine v_go rfl ?_
          refine v_bF rfl (by decide) ?_
          refine v_go rfl ?_
          refine v_ca rfl ?_
          refine c_noCell hk hsk h60 (fun e => by rw [hs] at e; cases e) (fun a b c e z => by rw [hs] at e; cases e; exact absurd z hy) (fun a b c e _ => ?_)
          refine v_go rfl ?_
          refine v_ca rfl ?_
          refine c_failed ?_
          exact v_rt rfl trivial (h _ ((frM.refl _).up (by omega)) (InvM_fl _ hI))
  · refine ⟨-1, (S, rd, sh, tr, 0), hz, fun D Q hI h => ?_, fun D Q hI h => ?_⟩
    · refine v_in (tb' := t_X4_put) (rk' := 1) rfl rfl rfl ?_
      refine v_go rfl ?_
      refine v_ca rfl ?_
      refine c_isSheet (fun z => absurd z hx) (fun _ => ?_)
      refine v_go rfl ?_
      refine v_bF rfl (by decide) ?_
      exact v_go rfl (v_rt rfl trivial (h _ ((frC.refl _).up (by omega)) (InvC_fl _ hI)))
    · refine v_in (tb' := t_X5_put) (rk' := 1) rfl rfl rfl ?_
      refine v_go rfl ?_
      refine v_ca rfl ?_
      refine c_noSheet (fun z => absurd z hx) (fun _ => ?_)
      refine v_go rfl ?_
      refine v_bF rfl (by decide) ?_
      refine v_go rfl ?_
      refine v_ca rfl ?_
      refine c_refused ?_
      exact v_rt rfl trivial (h _ ((frM.refl _).up (by omega)) (InvM_fl _ hI))
end
section
/-! ===== cell, copy ===== -/
theorem c_taking {L d k : Nat} {y : Int32} {s : Option (Nat × Nat × (Nat → Int32))} {D : m_D} {Q : m_K} (hk : k < 4) (hs : shC k D s) (h1 : s = none → Q (some (.int 1)) D) (h0 : ∀ la n f, s = some (la, n, f) → nI la = y → Q (some (.int 0)) D) (h2 : ∀ la n f, s = some (la, n, f) → ¬ nI la = y → Q (some (.int 2)) D) : m_call L (d + 1) 7 [.ref (24 + 2 * k), .int y] D Q := by
  have hk4 : k = 0 ∨ k = 1 ∨ k = 2 ∨ k = 3 := by omega
  match s, hs, h1, h0, h2 with
  | none, hs, h1, _, _ =>
    rcases hk4 with rfl | rfl | rfl | rfl
    all_goals
      refine v_in (tb' := t_X1_faultOfTaking) (rk' := 1) rfl rfl rfl ?_
      refine v_go rfl ?_
      refine v_bF rfl (fun z => z hs) ?_
      exact v_go rfl (v_rt rfl trivial (h1 rfl))
  | some (la, n, f), hs, _, h0, h2 =>
    obtain ⟨k1, k2, -, -⟩ := hs
    have hne : ¬ D (24 + 2 * k) 1 = 0 := by rw [k1]; decide
    have h0 := h0 la n f rfl
    have h2 := h2 la n f rfl
    rw [← k2] at h0 h2
    rcases hk4 with rfl | rfl | rfl | rfl
    all_goals
      refine v_in (tb' := t_X1_faultOfTaking) (rk' := 1) rfl rfl rfl ?_
      refine v_go rfl ?_
      refine v_bT rfl hne ?_
      refine v_go rfl ?_
      refine v_br rfl (fun z => ?_) (fun z => ?_)
      · exact v_go rfl (v_rt rfl trivial (h2 z))
      · exact v_go rfl (v_rt rfl trivial (h0 (Decidable.not_not.mp z)))
theorem c_failedLong {L d : Nat} {v : Int32} {D : m_D} {Q : m_K} (h : Q (some (.long (-9223372036854775808))) (m_up D 34 0 v)) : m_call L (d + 2) 96 [.ref 34, .int v] D Q := by
  refine v_in (tb' := t_X5_failedLong) (rk' := 3) rfl rfl rfl ?_
  refine v_go rfl ?_
  refine v_ca rfl ?_
  refine v_in (tb' := t_X5_lost) (rk' := 3) rfl rfl rfl ?_
  refine v_go rfl ?_
  refine v_rt rfl trivial ?_
  exact v_rt rfl trivial h
theorem c_lostM {L d : Nat} {D : m_D} {Q : m_K} (h : Q (some (.long (-9223372036854775808))) D) : m_call L (d + 1) 91 [] D Q := by
  refine v_in (tb' := t_X5_lost) (rk' := 3) rfl rfl rfl ?_
  refine v_go rfl ?_
  exact v_rt rfl trivial h
theorem s_cell (x y w : Int32) : StepL 68 156 [.int x, .int y, .int w] := by
  intro L Z hz
  obtain ⟨S, rd, sh, tr, fl⟩ := Z
  have hg : (2 : Int64).toInt = ((3 : Nat) : Int) - 1 := by decide
  by_cases hx : vp_in x 4
  · by_cases hw : vp_in w 3
    · obtain ⟨k, hk, rfl⟩ := vp_in_of hx (by omega)
      have hck : (nI k).toNatClampNeg = k := nI_clamp (by omega)
      have hk4 : k = 0 ∨ k = 1 ∨ k = 2 ∨ k = 3 := by omega
      have hk0 := hk
      have h60 : ∀ la n f, sh k = some (la, n, f) → n ≤ 60 := fun la n f e => (hz.2.2.2.2 k hk la n f e).2
      cases hs : sh k with
      | none =>
        refine ⟨-9223372036854775808, (S, rd, sh, tr, 1), hz, fun D Q hI h => ?_, fun D Q hI h => ?_⟩
        · have hsk : shC k (m_up D 0 9 0) (sh k) := (InvC_fl 0 hI).2.2.2.1 k hk
          have h := h (m_up D 0 9 1) ((frC.refl _).up (by omega)) (InvC_fl _ hI)
          refine v_in (tb' := t_X4_cell) (rk' := 3) rfl rfl rfl ?_
          refine v_go rfl ?_
          refine v_ca rfl ?_
          refine c_isSheet (fun _ => ?_) (fun z => absurd hx z)
          refine v_go rfl ?_
          refine v_bF rfl (by decide) ?_
          refine v_go rfl ?_
          refine v_ca rfl ?_
          refine c_isLane (fun _ => ?_) (fun z => absurd hw z)
          refine v_go rfl ?_
          refine v_bT rfl (by decide) ?_
          refine v_go rfl ?_
          refine v_al rfl hx (fun q hq => ?_)
          have hq := al_q hk hq
          subst hq
          rcases hk4 with rfl | rfl | rfl | rfl
          all_goals
            refine v_go rfl ?_
            refine v_ca rfl ?_
            refine c_taking hk0 hsk (fun _ => ?_) (fun a b c e => by rw [hs] at e; cases e) (fun a b c e => by rw [hs] at e; cases e)
            refine v_go rfl ?_
            refine v_bT rfl (by decide) ?_
            refine v_go rfl ?_
            refine v_bF rfl (by decide) ?_
            refine v_go rfl ?_
            rw [m_up_ii]
            exact v_rt rfl trivial h
        · have hI0 := InvM_fl 0 hI
          have hsk : shM k (m_up D 34 0 0) (sh k) := hI0.2.2.2.1 k hk
          have hs56 : m_up D 34 0 0 56 k = -1 := by rw [hs] at hsk; exact hsk
          refine v_in (tb' := t_X5_cell) (rk' := 3) rfl rfl rfl ?_
          refine v_go rfl ?_
          refine v_ca rfl ?_
          refine c_noSheet (fun _ => ?_) (fun z => absurd hx z)
          refine v_go rfl ?_
          refine v_bF rfl (by decide) ?_
          refine v_go rfl ?_
          refine v_ca rfl ?_
          refine c_in (fun _ _ => ?_) (fun z => absurd ((in_iff hg).mpr hw) z)
          refine v_go rfl ?_
          refine v_bT rfl (by decide) ?_
          refine v_go rfl ?_
          refine v_sd rfl hx ?_
          rw [hck, hs56]
          refine v_bT rfl (by decide) ?_
          refine v_go rfl ?_
          refine v_ca rfl ?_
          refine c_noCell hk hsk h60 (fun _ => ?_) (fun la n f e => by rw [hs] at e; cases e) (fun la n f e => by rw [hs] at e; cases e)
          refine v_go rfl ?_
          refine v_bF rfl (by decide) ?_
          refine v_go rfl ?_
          refine v_ca rfl ?_
          refine c_noCell hk hsk h60 (fun _ => ?_) (fun la n f e => by rw [hs] at e; cases e) (fun la n f e => by rw [hs] at e; cases e)
          refine v_ca rfl ?_
          refine c_failedLong ?_
          rw [m_up_ii]
          exact v_go rfl (v_rt rfl trivial (h _ ((frM.refl _).up (by omega)) (InvM_fl _ hI)))
      | some s0 =>
        obtain ⟨la, n, f⟩ := s0
        have hn60 := h60 la n f hs
        by_cases hlw : nI la = w
        · by_cases hy : vp_in y n
          · obtain ⟨i, hi, rfl⟩ := vp_in_of hy (by omega)
            have hci : (nI i).toNatClampNeg = i := nI_clamp (by omega)
            have hin60 : vp_in (nI i) 60 := vp_in_nI (by omega) (by omega)
            refine ⟨(f i).toInt64, (S, rd, sh, tr, 0), hz, fun D Q hI h => ?_, fun D Q hI h => ?_⟩
            · have hsk : shC k (m_up D 0 9 0) (sh k) := (InvC_fl 0 hI).2.2.2.1 k hk
              have h := h (m_up D 0 9 0) ((frC.refl _).up (by omega)) (InvC_fl _ hI)
              have hsk2 := hsk
              rw [hs] at hsk2
              obtain ⟨k1, k2, k3, k4⟩ := hsk2
              have k5 := k4 i hi
              rw [← k5] at h
              refine v_in (tb' := t_X4_cell) (rk' := 3) rfl rfl rfl ?_
              refine v_go rfl ?_
              refine v_ca rfl ?_
              refine c_isSheet (fun _ => ?_) (fun z => absurd hx z)
              refine v_go rfl ?_
              refine v_bF rfl (by decide) ?_
              refine v_go rfl ?_
              refine v_ca rfl ?_
              refine c_isLane (fun _ => ?_) (fun z => absurd hw z)
              refine v_go rfl ?_
              refine v_bT rfl (by decide) ?_
              refine v_go rfl ?_
              refine v_al rfl hx (fun q hq => ?_)
              have hq := al_q hk hq
              subst hq
              rcases hk4 with rfl | rfl | rfl | rfl
              all_goals
                refine v_go rfl ?_
                refine v_ca rfl ?_
                refine c_taking hk0 hsk (fun e => by rw [hs] at e; cases e) (fun a b c e _ => ?_) (fun a b c e z => by rw [hs] at e; cases e; exact absurd hlw z)
                refine v_go rfl ?_
                refine v_bF rfl (by decide) ?_
                refine v_go rfl ?_
                refine v_ca rfl ?_
                refine c_hasCell hk0 k3 hn60 (fun _ => ?_) (fun z => absurd hy z)
                refine v_go rfl ?_
                refine v_bT rfl (by decide) ?_
                refine v_go rfl ?_
                refine v_bT rfl (by decide) ?_
                refine v_go rfl ?_
                refine v_sd rfl hin60 ?_
                rw [hci]
                refine v_go rfl ?_
                exact v_rt rfl trivial h
            · have hI0 := InvM_fl 0 hI
              have hsk : shM k (m_up D 34 0 0) (sh k) := hI0.2.2.2.1 k hk
              have hsk2 := hsk
              rw [hs] at hsk2
              obtain ⟨k1, k2, k3⟩ := hsk2
              have e60 : (60 : Int32) * nI k + nI i = nI (60 * k + i) := by rw [show (60 : Int32) = nI 60 from rfl, pk_mul, nI_add]
              have hin2 : vp_in (nI (60 * k + i)) 240 := vp_in_nI (by omega) (by omega)
              have hc2 : (nI (60 * k + i)).toNatClampNeg = 60 * k + i := nI_clamp (by omega)
              refine v_in (tb' := t_X5_cell) (rk' := 3) rfl rfl rfl ?_
              refine v_go rfl ?_
              refine v_ca rfl ?_
              refine c_noSheet (fun _ => ?_) (fun z => absurd hx z)
              refine v_go rfl ?_
              refine v_bF rfl (by decide) ?_
              refine v_go rfl ?_
              refine v_ca rfl ?_
              refine c_in (fun _ _ => ?_) (fun z => absurd ((in_iff hg).mpr hw) z)
              refine v_go rfl ?_
              refine v_bT rfl (by decide) ?_
              refine v_go rfl ?_
              refine v_sd rfl hx ?_
              rw [hck, k1]
              refine v_bF rfl (nI_pos (by omega)) ?_
              refine v_go rfl ?_
              refine v_sd rfl hx ?_
              rw [hck, k2]
              refine v_go rfl ?_
              refine v_bT rfl hlw ?_
              refine v_go rfl ?_
              refine v_ca rfl ?_
              refine c_noCell hk hsk h60 (fun e => by rw [hs] at e; cases e) (fun a b c e _ => ?_) (fun a b c e z => by rw [hs] at e; cases e; exact absurd hy z)
              refine v_go rfl ?_
              refine v_bT rfl (by decide) ?_
              refine v_go rfl ?_
              rw [e60]
              refine v_sd rfl hin2 ?_
              rw [hc2, k3 i hi]
              exact v_go rfl (v_rt rfl trivial (h _ ((frM.refl _).up (by omega)) hI0))
          · refine ⟨-9223372036854775808, (S, rd, sh, tr, 3), hz, fun D Q hI h => ?_, fun D Q hI h => ?_⟩
            · have hsk : shC k (m_up D 0 9 0) (sh k) := (InvC_fl 0 hI).2.2.2.1 k hk
              have h := h (m_up D 0 9 3) ((frC.refl _).up (by omega)) (InvC_fl _ hI)
              have hsk2 := hsk
              rw [hs] at hsk2
              obtain ⟨k1, k2, k3, k4⟩ := hsk2
              refine v_in (tb' := t_X4_cell) (rk' := 3) rfl rfl rfl ?_
              refine v_go rfl ?_
              refine v_ca rfl ?_
              refine c_isSheet (fun _ => ?_) (fun z => absurd hx z)
              refine v_go rfl ?_
              refine v_bF rfl (by decide) ?_
              refine v_go rfl ?_
              refine v_ca rfl ?_
              refine c_isLane (fun _ => ?_) (fun z => absurd hw z)
              refine v_go rfl ?_
              refine v_bT rfl (by decide) ?_
              refine v_go rfl ?_
              refine v_al rfl hx (fun q hq => ?_)
              have hq := al_q hk hq
              subst hq
              rcases hk4 with rfl | rfl | rfl | rfl
              all_goals
                refine v_go rfl ?_
                refine v_ca rfl ?_
                refine c_taking hk0 hsk (fun e => by rw [hs] at e; cases e) (fun a b c e _ => ?_) (fun a b c e z => by rw [hs] at e; cases e; exact absurd hlw z)
                refine v_go rfl ?_
                refine v_bF rfl (by decide) ?_
                refine v_go rfl ?_
                refine v_ca rfl ?_
                refine c_hasCell hk0 k3 hn60 (fun z => absurd z hy) (fun _ => ?_)
                refine v_go rfl ?_
                refine v_bF rfl (by decide) ?_
                refine v_go rfl ?_
                refine v_bF rfl (by decide) ?_
                refine v_go rfl ?_
                rw [m_up_ii]
                exact v_rt rfl trivial h
            · have hI0 := InvM_fl 0 hI
              have hsk : shM k (m_up D 34 0 0) (sh k) := hI0.2.2.2.1 k hk
              have hsk2 := hsk
              rw [hs] at hsk2
              obtain ⟨k1, k2, k3⟩ := hsk2
              refine v_in (tb' := t_X5_cell) (rk' := 3) rfl rfl rfl ?_
              refine v_go rfl ?_
              refine v_ca rfl ?_
              refine c_noSheet (fun _ => ?_) (fun z => absurd hx z)
              refine v_go rfl ?_
              refine v_bF rfl (by decide) ?_
              refine v_go rfl ?_
              refine v_ca rfl ?_
              refine c_in (fun _ _ => ?_) (fun z => absurd ((in_iff hg).mpr hw) z)
              refine v_go rfl ?_
              refine v_bT rfl (by decide) ?_
              refine v_go rfl ?_
              refine v_sd rfl hx ?_
              rw [hck, k1]
              refine v_bF rfl (nI_pos (by omega)) ?_
              refine v_go rfl ?_
              refine v_sd rfl hx ?_
              rw [hck, k2]
              refine v_go rfl ?_
              refine v_bT rfl hlw ?_
              refine v_go rfl ?_
              refine v_ca rfl ?_
              refine c_noCell hk hsk h60 (fun e => by rw [hs] at e; cases e) (fun a b c e z => by rw [hs] at e; cases e; exact absurd z hy) (fun a b c e _ => ?_)
              refine v_go rfl ?_
              refine v_bF rfl (by decide) ?_
              refine v_go rfl ?_
              refine v_ca rfl ?_
              refine c_noCell hk hsk h60 (fun e => by rw [hs] at e; cases e) (fun a b c e z => by rw [hs] at e; cases e; exact absurd z hy) (fun a b c e _ => ?_)
              refine v_ca rfl ?_
              refine c_failedLong ?_
              rw [m_up_ii]
              exact v_go rfl (v_rt rfl trivial (h _ ((frM.refl _).up (by omega)) (InvM_fl _ hI)))
        · refine ⟨-9223372036854775808, (S, rd, sh, tr, 2), hz, fun D Q hI h => ?_, fun D Q hI h => ?_⟩
          · have hsk : shC k (m_up D 0 9 0) (sh k) := (InvC_fl 0 hI).2.2.2.1 k hk
            have h := h (m_up D 0 9 2) ((frC.refl _).up (by omega)) (InvC_fl _ hI)
            refine v_in (tb' := t_X4_cell) (rk' := 3) rfl rfl rfl ?_
            refine v_go rfl ?_
            refine v_ca rfl ?_
            refine c_isSheet (fun _ => ?_) (fun z => absurd hx z)
            refine v_go rfl ?_
            refine v_bF rfl (by decide) ?_
            refine v_go rfl ?_
            refine v_ca rfl ?_
            refine c_isLane (fun _ => ?_) (fun z => absurd hw z)
            refine v_go rfl ?_
            refine v_bT rfl (by decide) ?_
            refine v_go rfl ?_
            refine v_al rfl hx (fun q hq => ?_)
            have hq := al_q hk hq
            subst hq
            rcases hk4 with rfl | rfl | rfl | rfl
            all_goals
              refine v_go rfl ?_
              refine v_ca rfl ?_
              refine c_taking hk0 hsk (fun e => by rw [hs] at e; cases e) (fun a b c e z => by rw [hs] at e; cases e; exact absurd z hlw) (fun a b c e _ => ?_)
              refine v_go rfl ?_
              refine v_bT rfl (by decide) ?_
              refine v_go rfl ?_
              refine v_bF rfl (by decide) ?_
              refine v_go rfl ?_
              rw [m_up_ii]
              exact v_rt rfl trivial h
          · have hI0 := InvM_fl 0 hI
            have hsk : shM k (m_up D 34 0 0) (sh k) := hI0.2.2.2.1 k hk
            have hsk2 := hsk
            rw [hs] at hsk2
            obtain ⟨k1, k2, k3⟩ := hsk2
            refine v_in (tb' := t_X5_cell) (rk' := 3) rfl rfl rfl ?_
            refine v_go rfl ?_
            refine v_ca rfl ?_
            refine c_noSheet (fun _ => ?_) (fun z => absurd hx z)
            refine v_go rfl ?_
            refine v_bF rfl (by decide) ?_
            refine v_go rfl ?_
            refine v_ca rfl ?_
            refine c_in (fun _ _ => ?_) (fun z => absurd ((in_iff hg).mpr hw) z)
            refine v_go rfl ?_
            refine v_bT rfl (by decide) ?_
            refine v_go rfl ?_
            refine v_sd rfl hx ?_
            rw [hck, k1]
            refine v_bF rfl (nI_pos (by omega)) ?_
            refine v_go rfl ?_
            refine v_sd rfl hx ?_
            rw [hck, k2]
            refine v_go rfl ?_
            refine v_bF rfl hlw ?_
            refine v_go rfl ?_
            refine v_ca rfl ?_
            refine c_failedLong ?_
            rw [m_up_ii]
            exact v_rt rfl trivial (h _ ((frM.refl _).up (by omega)) (InvM_fl _ hI))
    · refine ⟨-9223372036854775808, (S, rd, sh, tr, 0), hz, fun D Q hI h => ?_, fun D Q hI h => ?_⟩
      · refine v_in (tb' := t_X4_cell) (rk' := 3) rfl rfl rfl ?_
        refine v_go rfl ?_
        refine v_ca rfl ?_
        refine c_isSheet (fun _ => ?_) (fun z => absurd hx z)
        refine v_go rfl ?_
        refine v_bF rfl (by decide) ?_
        refine v_go rfl ?_
        refine v_ca rfl ?_
        refine c_isLane (fun z => absurd z hw) (fun _ => ?_)
        refine v_go rfl ?_
        refine v_bF rfl (by decide) ?_
        exact v_go rfl (v_rt rfl trivial (h _ ((frC.refl _).up (by omega)) (InvC_fl _ hI)))
      · refine v_in (tb' := t_X5_cell) (rk' := 3) rfl rfl rfl ?_
        refine v_go rfl ?_
        refine v_ca rfl ?_
        refine c_noSheet (fun _ => ?_) (fun z => absurd hx z)
        refine v_go rfl ?_
        refine v_bF rfl (by decide) ?_
        refine v_go rfl ?_
        refine v_ca rfl ?_
        refine c_in (fun a b => absurd ((in_iff hg).mp ⟨a, b⟩) hw) (fun _ => ?_)
        refine v_go rfl ?_
        refine v_bF rfl (by decide) ?_
        refine v_go rfl ?_
        refine v_ca rfl ?_
        refine c_lostM ?_
        exact v_rt rfl trivial (h _ ((frM.refl _).up (by omega)) (InvM_fl _ hI))
  · refine ⟨-9223372036854775808, (S, rd, sh, tr, 0), hz, fun D Q hI h => ?_, fun D Q hI h => ?_⟩
    · refine v_in (tb' := t_X4_cell) (rk' := 3) rfl rfl rfl ?_
      refine v_go rfl ?_
      refine v_ca rfl ?_
      refine c_isSheet (fun z => absurd z hx) (fun _ => ?_)
      refine v_go rfl ?_
      refine v_bT rfl (by decide) ?_
      exact v_go rfl (v_rt rfl trivial (h _ ((frC.refl _).up (by omega)) (InvC_fl _ hI)))
    · refine v_in (tb' := t_X5_cell) (rk' := 3) rfl rfl rfl ?_
      refine v_go rfl ?_
      refine v_ca rfl ?_
      refine c_noSheet (fun z => absurd z hx) (fun _ => ?_)
      refine v_go rfl ?_
      refine v_bT rfl (by decide) ?_
      refine v_go rfl ?_
      refine v_ca rfl ?_
      refine c_lostM ?_
      exact v_rt rfl trivial (h _ ((frM.refl _).up (by omega)) (InvM_fl _ hI))
end
section
/-! ===== copy ===== -/
/-- so many cells from there on, that there are -/
def rng (i : Int32) (w : Int) (n : Nat) : Prop := 0 ≤ i.toInt ∧ 0 ≤ w ∧ i.toInt + w ≤ n
theorem c_hasCells {L d k n : Nat} {i w : Int32} {D : m_D} {Q : m_K} (hk : k < 4) (hn : D (24 + 2 * k) 3 = nI n) (h60 : n ≤ 60) (h1 : rng i w.toInt n → Q (some (.int 1)) D) (h0 : ¬ rng i w.toInt n → Q (some (.int 0)) D) : m_call L (d + 1) 9 [.ref (24 + 2 * k), .int i, .int w] D Q := by
  have hk4 : k = 0 ∨ k = 1 ∨ k = 2 ∨ k = 3 := by omega
  have lt0 : ∀ z : Int32, z < 0 ↔ z.toInt < 0 := fun z => by rw [Int32.lt_iff_toInt_lt, Int32.toInt_zero]
  have gtn : ∀ z : Int32, nI n < z ↔ (n : Int) < z.toInt := fun z => by rw [Int32.lt_iff_toInt_lt, nI_toInt (by omega)]
  have sub : 0 ≤ i.toInt → i.toInt ≤ n → (nI n - i < w ↔ (n : Int) - i.toInt < w.toInt) := fun a b => by
    rw [Int32.lt_iff_toInt_lt, Int32.toInt_sub, nI_toInt (by omega), Int.bmod_eq_of_le (by omega) (by omega)]
  rw [← hn] at gtn sub
  rcases hk4 with rfl | rfl | rfl | rfl
  all_goals
    refine v_in (tb' := t_X1_hasCells) (rk' := 2) rfl rfl rfl ?_
    refine v_go rfl ?_
    refine v_br rfl (fun z1 => ?_) (fun z1 => ?_)
    · exact v_go rfl (v_rt rfl (Or.inl rfl) (h0 (fun y => absurd ((lt0 i).mp z1) (by have := y.1; omega))))
    · have z1 : ¬ i.toInt < 0 := fun y => z1 ((lt0 i).mpr y)
      refine v_go rfl ?_
      refine v_br rfl (fun z2 => ?_) (fun z2 => ?_)
      · have z2 := (gtn i).mp z2
        exact v_go rfl (v_rt rfl (Or.inl rfl) (h0 (fun y => by have := y.2; omega)))
      · have z2 : ¬ (n : Int) < i.toInt := fun y => z2 ((gtn i).mpr y)
        refine v_go rfl ?_
        refine v_br rfl (fun z3 => ?_) (fun z3 => ?_)
        · have z3 := (lt0 w).mp z3
          exact v_go rfl (v_rt rfl (Or.inl rfl) (h0 (fun y => by have := y.2; omega)))
        · have z3 : ¬ w.toInt < 0 := fun y => z3 ((lt0 w).mpr y)
          refine v_go rfl ?_
          have sub := sub (by omega) (by omega)
          refine v_br rfl (fun z4 => ?_) (fun z4 => ?_)
          · have z4 := sub.mp z4
            exact v_go rfl (v_rt rfl (Or.inl rfl) (h0 (fun y => by have := y.2; omega)))
          · have z4 : ¬ (n : Int) - i.toInt < w.toInt := fun y => z4 (sub.mpr y)
            exact v_go rfl (v_rt rfl (Or.inr rfl) (h1 ⟨by omega, by omega, by omega⟩))
theorem c_isBeyond {L d n : Nat} {i : Int32} {w : Int64} {D : m_D} {Q : m_K} (h60 : n ≤ 60) (hw : w.toInt < 2 ^ 40 ∧ -2 ^ 40 < w.toInt) (h0 : rng i w.toInt n → Q (some (.int 0)) D) (h1 : ¬ rng i w.toInt n → Q (some (.int 1)) D) : m_call L (d + 1) 157 [.int i, .long w, .int (nI n)] D Q := by
  have lt0 : ∀ z : Int32, z < 0 ↔ z.toInt < 0 := fun z => by rw [Int32.lt_iff_toInt_lt, Int32.toInt_zero]
  have wl : w < 0 ↔ w.toInt < 0 := by
    rw [Int64.lt_iff_toInt_lt]
    rfl
  have hi1 := Int32.toInt_lt i
  have hi2 := Int32.le_toInt i
  have add : (i.toInt64 + w).toInt = i.toInt + w.toInt := by
    rw [Int64.toInt_add, Int32.toInt_toInt64]
    exact Int.bmod_eq_of_le (by omega) (by omega)
  have en : ((nI n).toInt64).toInt = (n : Int) := by rw [nI_l (by omega), lN_toInt (by omega)]
  refine v_in (tb' := t_X5_isBeyond) (rk' := 2) rfl rfl rfl ?_
  refine v_go rfl ?_
  refine v_br rfl (fun z1 => ?_) (fun z1 => ?_)
  · exact v_go rfl (v_rt rfl (Or.inr rfl) (h1 (fun y => absurd ((lt0 i).mp z1) (by have := y.1; omega))))
  · have z1 : ¬ i.toInt < 0 := fun y => z1 ((lt0 i).mpr y)
    refine v_go rfl ?_
    refine v_br rfl (fun z2 => ?_) (fun z2 => ?_)
    · have z2 := wl.mp (lg_lt.mp z2)
      exact v_go rfl (v_rt rfl (Or.inr rfl) (h1 (fun y => by have := y.2; omega)))
    · have z2 : ¬ w.toInt < 0 := fun y => z2 (lg_lt.mpr (wl.mpr y))
      refine v_go rfl ?_
      refine v_br rfl (fun z3 => ?_) (fun z3 => ?_)
      · have z3 : ¬ (nI n).toInt64 < i.toInt64 + w := fun y => absurd (lg_gt.mpr y) (Int32.not_lt.mpr z3)
        rw [Int64.lt_iff_toInt_lt, add, en] at z3
        exact v_go rfl (v_rt rfl (Or.inl rfl) (h0 ⟨by omega, by omega, by omega⟩))
      · have z3 : (nI n).toInt64 < i.toInt64 + w := lg_gt.mp (Int32.not_le.mp z3)
        rw [Int64.lt_iff_toInt_lt, add, en] at z3
        exact v_go rfl (v_rt rfl (Or.inr rfl) (h1 (fun y => by have := y.2; omega)))
theorem i64_small (w : Int32) : (w.toInt64).toInt < 2 ^ 40 ∧ -2 ^ 40 < (w.toInt64).toInt := by
  rw [Int32.toInt_toInt64]
  have hi1 := Int32.toInt_lt w
  have hi2 := Int32.le_toInt w
  omega
theorem rng_of {i w : Int32} {n : Nat} (h : rng i w.toInt n) (hn : n < 2 ^ 31) : ∃ a b : Nat, i = nI a ∧ w = nI b ∧ a + b ≤ n := by
  obtain ⟨h1, h2, h3⟩ := h
  have f : ∀ z : Int32, 0 ≤ z.toInt → z = nI z.toInt.toNat := fun z hz => by
    apply Int32.toInt_inj.mp
    have := Int32.toInt_lt z
    rw [nI_toInt (by omega)]
    omega
  exact ⟨i.toInt.toNat, w.toInt.toNat, f i h1, f w h2, by omega⟩
set_option maxHeartbeats 4000000 in
theorem s_copy (x y u w v : Int32) : StepI 69 158 [.int x, .int y, .int u, .int w, .int v] := by
  intro L Z hz
  obtain ⟨S, rd, sh, tr, fl⟩ := Z
  by_cases hxu : vp_in x 4 ∧ vp_in u 4
  · obtain ⟨hx, hu⟩ := hxu
    obtain ⟨k, hk, rfl⟩ := vp_in_of hx (by omega)
    obtain ⟨o, ho, rfl⟩ := vp_in_of hu (by omega)
    have hck : (nI k).toNatClampNeg = k := nI_clamp (by omega)
    have hco : (nI o).toNatClampNeg = o := nI_clamp (by omega)
    have hk4 : k = 0 ∨ k = 1 ∨ k = 2 ∨ k = 3 := by omega
    have ho4 : o = 0 ∨ o = 1 ∨ o = 2 ∨ o = 3 := by omega
    have hk0 := hk
    have ho0 := ho
    by_cases hnone : sh k = none ∨ sh o = none
    · refine ⟨-11, (S, rd, sh, tr, 1), hz, fun D Q hI h => ?_, fun D Q hI h => ?_⟩
      · have hsk : shC k (m_up D 0 9 0) (sh k) := (InvC_fl 0 hI).2.2.2.1 k hk
        have hso : shC o (m_up D 0 9 0) (sh o) := (InvC_fl 0 hI).2.2.2.1 o ho
        have h := h (m_up D 0 9 1) ((frC.refl _).up (by omega)) (InvC_fl _ hI)
        have hor : m_up D 0 9 0 (24 + 2 * k) 1 = 0 ∨ (¬ m_up D 0 9 0 (24 + 2 * k) 1 = 0 ∧ m_up D 0 9 0 (24 + 2 * o) 1 = 0) := by
          cases e1 : sh k with
          | none =>
            rw [e1] at hsk
            exact Or.inl hsk
          | some s1 =>
            rw [e1] at hsk
            rcases hnone with e | e
            · rw [e1] at e
              cases e
            · rw [e] at hso
              exact Or.inr ⟨by rw [hsk.1]; decide, hso⟩
        refine v_in (tb' := t_X4_copy) (rk' := 1) rfl rfl rfl ?_
        refine v_go rfl ?_
        refine v_ca rfl ?_
        refine c_isSheet (fun _ => ?_) (fun z => absurd hx z)
        refine v_go rfl ?_
        refine v_bF rfl (by decide) ?_
        refine v_go rfl ?_
        refine v_ca rfl ?_
        refine c_isSheet (fun _ => ?_) (fun z => absurd hu z)
        refine v_go rfl ?_
        refine v_bT rfl (by decide) ?_
        refine v_go rfl ?_
        refine v_al rfl hx (fun q hq => ?_)
        have hq := al_q hk hq
        subst hq
        refine v_go rfl ?_
        refine v_al rfl hu (fun q hq => ?_)
        have hq := al_q ho hq
        subst hq
        rcases hor with hz1 | ⟨hz1, hz2⟩
        · rcases hk4 with rfl | rfl | rfl | rfl
          all_goals
            refine v_go rfl ?_
            refine v_bT rfl hz1 ?_
            refine v_go rfl ?_
            refine v_ca rfl ?_
            refine c_faulted ?_
            rw [m_up_ii]
            exact v_rt rfl trivial h
        · rcases hk4 with rfl | rfl | rfl | rfl
          all_goals
            refine v_go rfl ?_
            refine v_bF rfl hz1 ?_
            rcases ho4 with rfl | rfl | rfl | rfl
            all_goals
              refine v_go rfl ?_
              refine v_bF rfl (fun z => z hz2) ?_
              refine v_go rfl ?_
              refine v_ca rfl ?_
              refine c_faulted ?_
              rw [m_up_ii]
              exact v_rt rfl trivial h
      · have hsk : shM k D (sh k) := hI.2.2.2.1 k hk
        have hso : shM o D (sh o) := hI.2.2.2.1 o ho
        have hor : D 56 k < 0 ∨ (¬ D 56 k < 0 ∧ ¬ 0 ≤ D 56 o) := by
          cases e1 : sh k with
          | none =>
            rw [e1] at hsk
            have hsk : D 56 k = -1 := hsk
            rw [hsk]
            exact Or.inl (by decide)
          | some s1 =>
            obtain ⟨la, n, f⟩ := s1
            have hn60 : n ≤ 60 := (hz.2.2.2.2 k hk la n f e1).2
            rw [e1] at hsk
            rcases hnone with e | e
            · rw [e1] at e
              cases e
            · rw [e] at hso
              have hso : D 56 o = -1 := hso
              rw [hsk.1, hso]
              exact Or.inr ⟨nI_pos (by omega), by decide⟩
        refine v_in (tb' := t_X5_copy) (rk' := 1) rfl rfl rfl ?_
        refine v_go rfl ?_
        refine v_ca rfl ?_
        refine c_noSheet (fun _ => ?_) (fun z => absurd hx z)
        refine v_go rfl ?_
        refine v_bF rfl (by decide) ?_
        refine v_go rfl ?_
        refine v_ca rfl ?_
        refine c_noSheet (fun _ => ?_) (fun z => absurd hu z)
        refine v_go rfl ?_
        refine v_bT rfl (by decide) ?_
        refine v_go rfl ?_
        refine v_sd rfl hx ?_
        rw [hck]
        rcases hor with hz1 | ⟨hz1, hz2⟩
        · refine v_bT rfl hz1 ?_
          refine v_go rfl ?_
          refine v_ca rfl ?_
          refine c_failed ?_
          exact v_rt rfl trivial (h _ ((frM.refl _).up (by omega)) (InvM_fl _ hI))
        · refine v_bF rfl hz1 ?_
          refine v_go rfl ?_
          refine v_sd rfl hu ?_
          rw [hco]
          refine v_bF rfl hz2 ?_
          refine v_go rfl ?_
          refine v_ca rfl ?_
          refine c_failed ?_
          exact v_rt rfl trivial (h _ ((frM.refl _).up (by omega)) (InvM_fl _ hI))
    · cases e1 : sh k with
      | none => exact absurd (Or.inl e1) hnone
      | some s1 =>
        cases e2 : sh o with
        | none => exact absurd (Or.inr e2) hnone
        | some s2 =>
          obtain ⟨la, n, f⟩ := s1
          obtain ⟨lb, m, g⟩ := s2
          obtain ⟨hla, hn60⟩ := hz.2.2.2.2 k hk la n f e1
          obtain ⟨hlb, hm60⟩ := hz.2.2.2.2 o ho lb m g e2
          by_cases hll : la = lb
          · subst hll
            by_cases hr : rng y v.toInt n ∧ rng w v.toInt m
            · obtain ⟨hr1, hr2⟩ := hr
              obtain ⟨i, c, rfl, rfl, hic⟩ := rng_of hr1 (by omega)
              obtain ⟨j, c', rfl, ec, hjc⟩ := rng_of hr2 (by omega)
              have ec : c = c' := by
                have h2 : c' < 2 ^ 31 := by omega
                exact (nI_eq (by omega) h2).mp ec
              subst ec
              have hci : (nI i).toNatClampNeg = i := nI_clamp (by omega)
              have hcj : (nI j).toNatClampNeg = j := nI_clamp (by omega)
              have hcc : (nI c).toNatClampNeg = c := nI_clamp (by omega)
              refine ⟨nI c, (S, rd, setH sh o (some (la, m, va_cpy f g i j c)), tr, 0), okZ_sh hz (fun a b c e => by cases e; omega), fun D Q hI h => ?_, fun D Q hI h => ?_⟩
              · have hI0 := InvC_fl 0 hI
                have hsk : shC k (m_up D 0 9 0) (sh k) := hI0.2.2.2.1 k hk
                have hso : shC o (m_up D 0 9 0) (sh o) := hI0.2.2.2.1 o ho
                rw [e1] at hsk
                rw [e2] at hso
                obtain ⟨k1, k2, k3, k4⟩ := hsk
                obtain ⟨o1, o2, o3, o4⟩ := hso
                have h := h (m_cp (m_up D 0 9 0) (25 + 2 * k) (25 + 2 * o) i j c) (fun a ha => by rw [m_cp_ne (by omega), m_up_ne (by omega)]) (InvC_sh _ hI0 ho (fun a _ _ hc => m_cp_ne hc) ⟨by rw [m_cp_ne (by omega)]; exact o1, by rw [m_cp_ne (by omega)]; exact o2, by rw [m_cp_ne (by omega)]; exact o3, fun b hb => by
                  rw [m_cp_at]
                  unfold va_cpy
                  by_cases e : j ≤ b ∧ b < j + c
                  · rw [if_pos e, if_pos e]
                    exact k4 _ (by omega)
                  · rw [if_neg e, if_neg e]
                    exact o4 b hb⟩)
                have hne1 : ¬ m_up D 0 9 0 (24 + 2 * k) 1 = 0 := by rw [k1]; decide
                have hne2 : ¬ m_up D 0 9 0 (24 + 2 * o) 1 = 0 := by rw [o1]; decide
                have hlane : m_up D 0 9 0 (24 + 2 * k) 2 = m_up D 0 9 0 (24 + 2 * o) 2 := k2.trans o2.symm
                have hcond : ¬ nI i < 0 ∧ ¬ nI j < 0 ∧ ¬ nI c < 0 ∧ (nI i).toNatClampNeg + (nI c).toNatClampNeg ≤ 60 ∧ (nI j).toNatClampNeg + (nI c).toNatClampNeg ≤ 60 := by
                  rw [hci, hcj, hcc]
                  exact ⟨nI_pos (by omega), nI_pos (by omega), nI_pos (by omega), by omega, by omega⟩
                refine v_in (tb' := t_X4_copy) (rk' := 1) rfl rfl rfl ?_
                refine v_go rfl ?_
                refine v_ca rfl ?_
                refine c_isSheet (fun _ => ?_) (fun z => absurd hx z)
                refine v_go rfl ?_
                refine v_bF rfl (by decide) ?_
                refine v_go rfl ?_
                refine v_ca rfl ?_
                refine c_isSheet (fun _ => ?_) (fun z => absurd hu z)
                refine v_go rfl ?_
                refine v_bT rfl (by decide) ?_
                refine v_go rfl ?_
                refine v_al rfl hx (fun q hq => ?_)
                have hq := al_q hk hq
                subst hq
                refine v_go rfl ?_
                refine v_al rfl hu (fun q hq => ?_)
                have hq := al_q ho hq
                subst hq
                rcases hk4 with rfl | rfl | rfl | rfl
                all_goals
                  rcases ho4 with rfl | rfl | rfl | rfl
                  all_goals
                    refine v_go rfl ?_
                    refine v_bF rfl hne1 ?_
                    refine v_go rfl ?_
                    refine v_bT rfl hne2 ?_
                    refine v_go rfl ?_
                    refine v_bT rfl hlane ?_
                    refine v_go rfl ?_
                    refine v_ca rfl ?_
                    refine c_hasCells hk0 k3 hn60 (fun _ => ?_) (fun z => absurd hr1 z)
                    refine v_go rfl ?_
                    refine v_bF rfl (by decide) ?_
                    refine v_go rfl ?_
                    refine v_ca rfl ?_
                    refine c_hasCells ho0 o3 hm60 (fun _ => ?_) (fun z => absurd hr2 z)
                    refine v_go rfl ?_
                    refine v_bT rfl (by decide) ?_
                    refine v_go rfl ?_
                    refine v_sd rfl hcond ?_
                    rw [hci, hcj, hcc]
                    refine v_go rfl ?_
                    exact v_rt rfl trivial h
              · have hsk : shM k D (sh k) := hI.2.2.2.1 k hk
                have hso : shM o D (sh o) := hI.2.2.2.1 o ho
                rw [e1] at hsk
                rw [e2] at hso
                obtain ⟨k1, k2, k3⟩ := hsk
                obtain ⟨o1, o2, o3⟩ := hso
                have e60 : ∀ a b, (60 : Int32) * nI a + nI b = nI (60 * a + b) := fun a b => by rw [show (60 : Int32) = nI 60 from rfl, pk_mul, nI_add]
                have c64 : ((nI c).toInt64).toInt = (nI c).toInt := Int32.toInt_toInt64 _
                have kb : ∀ (m2 a : Nat) (D1 : m_D), a + m2 = c → m_fM [58, 59] [] D D1 → (∀ b, b < c → D1 59 b = f (i + b)) → (∀ b, D1 58 b = if 60 * o + j ≤ b ∧ b < 60 * o + j + a then f (i + (b - (60 * o + j))) else D 58 b) → m_V L 7 Q t_X5_copy 1 (144, [some (.ref 34), some (.int (nI k)), some (.int (nI i)), some (.int (nI o)), some (.int (nI j)), some (.int (nI c)), some (.int (nI a))], [], D1) := by
                  intro m2
                  induction m2 with
                  | zero =>
                    intro a D1 ha hf h59 h58
                    have ha : a = c := by omega
                    subst ha
                    refine v_go rfl ?_
                    refine v_bT rfl (Int32.le_refl _) ?_
                    refine v_go rfl ?_
                    refine v_ca rfl ?_
                    refine c_refused ?_
                    have ecell : ∀ q, q ≠ 58 → q ≠ 59 → q ≠ 34 → D1 q = D q := fun q h1 h2 h3 => hf.1 q (by simp [h1, h2]) h3
                    refine v_rt rfl trivial (h _ (fun q hq => ?_) (InvM_fl (fl := fl) 0 (InvM_sh _ hz hI ho (fun q hq => ecell q (by omega) (by omega) (by omega)) (fun q _ => hf.2 q (by simp)) (fun q hq hqo => ⟨by rw [ecell 56 (by omega) (by omega) (by omega)], by rw [ecell 57 (by omega) (by omega) (by omega)], fun b hb => ?_⟩) ⟨?_, ?_, fun b hb => ?_⟩)))
                    · rw [m_up_ne (by omega)]
                      exact ecell q (by omega) (by omega) (by omega)
                    · rw [h58, if_neg (by omega)]
                    · rw [ecell 56 (by omega) (by omega) (by omega)]
                      exact o1
                    · rw [ecell 57 (by omega) (by omega) (by omega)]
                      exact o2
                    · rw [h58]
                      unfold va_cpy
                      by_cases e : j ≤ b ∧ b < j + a
                      · rw [if_pos (by omega), if_pos e, show 60 * o + b - (60 * o + j) = b - j by omega]
                      · rw [if_neg (by omega), if_neg e]
                        exact o3 b hb
                  | succ m2 ih =>
                    intro a D1 ha hf h59 h58
                    have hia : vp_in (nI a) 60 := vp_in_nI (by omega) (by omega)
                    have hca : (nI a).toNatClampNeg = a := nI_clamp (by omega)
                    have hib : vp_in (nI (60 * o + j + a)) 240 := vp_in_nI (by omega) (by omega)
                    have hcb : (nI (60 * o + j + a)).toNatClampNeg = 60 * o + j + a := nI_clamp (by omega)
                    have ih := ih (a + 1) (m_up D1 58 (60 * o + j + a) (f (i + a))) (by omega) (hf.up (by simp) (by decide)) h59 (fun b => by
                      by_cases e : b = 60 * o + j + a
                      · rw [e, m_up_s, if_pos (by omega), show 60 * o + j + a - (60 * o + j) = a by omega]
                      · rw [m_up_n e, h58]
                        by_cases e3 : 60 * o + j ≤ b ∧ b < 60 * o + j + a
                        · rw [if_pos e3, if_pos (by omega)]
                        · rw [if_neg e3, if_neg (by omega)])
                    rw [← nI_1] at ih
                    refine v_go rfl ?_
                    refine v_bF rfl (nI_ge (by omega) (by omega)) ?_
                    refine v_go rfl ?_
                    rw [e60, nI_add]
                    refine v_sd rfl hia ?_
                    rw [hca, h59 a (by omega)]
                    refine v_sd rfl hib ?_
                    rw [hcb]
                    exact v_run 2 rfl ih
                have ka : ∀ (m2 a : Nat) (D1 : m_D), a + m2 = c → m_fM [59] [] D D1 → (∀ b, b < a → D1 59 b = f (i + b)) → m_V L 7 Q t_X5_copy 1 (107, [some (.ref 34), some (.int (nI k)), some (.int (nI i)), some (.int (nI o)), some (.int (nI j)), some (.int (nI c)), some (.int (nI a))], [], D1) := by
                  intro m2
                  induction m2 with
                  | zero =>
                    intro a D1 ha hf h59
                    have ha : a = c := by omega
                    subst ha
                    refine v_go rfl ?_
                    refine v_bT rfl (Int32.le_refl _) ?_
                    refine v_run 2 rfl (kb a 0 D1 (by omega) (hf.sub (by simp) (by simp)) h59 (fun b => ?_))
                    rw [if_neg (by omega), hf.1 58 (by simp) (by omega)]
                  | succ m2 ih =>
                    intro a D1 ha hf h59
                    have hia : vp_in (nI a) 60 := vp_in_nI (by omega) (by omega)
                    have hca : (nI a).toNatClampNeg = a := nI_clamp (by omega)
                    have hib : vp_in (nI (60 * k + i + a)) 240 := vp_in_nI (by omega) (by omega)
                    have hcb : (nI (60 * k + i + a)).toNatClampNeg = 60 * k + i + a := nI_clamp (by omega)
                    have e58 : D1 58 (60 * k + i + a) = f (i + a) := by
                      rw [hf.1 58 (by simp) (by omega), show 60 * k + i + a = 60 * k + (i + a) by omega]
                      exact k3 _ (by omega)
                    have ih := ih (a + 1) (m_up D1 59 a (f (i + a))) (by omega) (hf.up (by simp) (by decide)) (fun b hb => by
                      by_cases e : b = a
                      · rw [e, m_up_s]
                      · rw [m_up_n e]
                        exact h59 b (by omega))
                    rw [← nI_1] at ih
                    refine v_go rfl ?_
                    refine v_bF rfl (nI_ge (by omega) (by omega)) ?_
                    refine v_go rfl ?_
                    rw [e60, nI_add]
                    refine v_sd rfl hib ?_
                    rw [hcb, e58]
                    refine v_sd rfl hia ?_
                    rw [hca]
                    exact v_run 2 rfl ih
                refine v_in (tb' := t_X5_copy) (rk' := 1) rfl rfl rfl ?_
                refine v_go rfl ?_
                refine v_ca rfl ?_
                refine c_noSheet (fun _ => ?_) (fun z => absurd hx z)
                refine v_go rfl ?_
                refine v_bF rfl (by decide) ?_
                refine v_go rfl ?_
                refine v_ca rfl ?_
                refine c_noSheet (fun _ => ?_) (fun z => absurd hu z)
                refine v_go rfl ?_
                refine v_bT rfl (by decide) ?_
                refine v_go rfl ?_
                refine v_sd rfl hx ?_
                rw [hck, k1]
                refine v_bF rfl (nI_pos (by omega)) ?_
                refine v_go rfl ?_
                refine v_sd rfl hu ?_
                rw [hco, o1]
                refine v_bT rfl (nI_pos' (by omega)) ?_
                refine v_go rfl ?_
                refine v_sd rfl hx ?_
                rw [hck, k2]
                refine v_go rfl ?_
                refine v_sd rfl hu ?_
                rw [hco, o2]
                refine v_bT rfl rfl ?_
                refine v_go rfl ?_
                refine v_sd rfl hx ?_
                rw [hck, k1]
                refine v_ca rfl ?_
                refine c_isBeyond hn60 (i64_small _) (fun _ => ?_) (fun z => absurd (by rw [c64]; exact hr1) z)
                refine v_go rfl ?_
                refine v_bF rfl (by decide) ?_
                refine v_go rfl ?_
                refine v_sd rfl hu ?_
                rw [hco, o1]
                refine v_ca rfl ?_
                refine c_isBeyond hm60 (i64_small _) (fun _ => ?_) (fun z => absurd (by rw [c64]; exact hr2) z)
                refine v_go rfl ?_
                refine v_bT rfl (by decide) ?_
                exact v_run 2 rfl (ka c 0 D (by omega) (m_fM.refl _ _ _) (fun b hb => absurd hb (by omega)))
            · refine ⟨-13, (S, rd, sh, tr, 3), hz, fun D Q hI h => ?_, fun D Q hI h => ?_⟩
              · have hI0 := InvC_fl 0 hI
                have hsk : shC k (m_up D 0 9 0) (sh k) := hI0.2.2.2.1 k hk
                have hso : shC o (m_up D 0 9 0) (sh o) := hI0.2.2.2.1 o ho
                rw [e1] at hsk
                rw [e2] at hso
                obtain ⟨k1, k2, k3, k4⟩ := hsk
                obtain ⟨o1, o2, o3, o4⟩ := hso
                have h := h (m_up D 0 9 3) ((frC.refl _).up (by omega)) (InvC_fl _ hI)
                have hne1 : ¬ m_up D 0 9 0 (24 + 2 * k) 1 = 0 := by rw [k1]; decide
                have hne2 : ¬ m_up D 0 9 0 (24 + 2 * o) 1 = 0 := by rw [o1]; decide
                have hlane : m_up D 0 9 0 (24 + 2 * k) 2 = m_up D 0 9 0 (24 + 2 * o) 2 := k2.trans o2.symm
                refine v_in (tb' := t_X4_copy) (rk' := 1) rfl rfl rfl ?_
                refine v_go rfl ?_
                refine v_ca rfl ?_
                refine c_isSheet (fun _ => ?_) (fun z => absurd hx z)
                refine v_go rfl ?_
                refine v_bF rfl (by decide) ?_
                refine v_go rfl ?_
                refine v_ca rfl ?_
                refine c_isSheet (fun _ => ?_) (fun z => absurd hu z)
                refine v_go rfl ?_
                refine v_bT rfl (by decide) ?_
                refine v_go rfl ?_
                refine v_al rfl hx (fun q hq => ?_)
                have hq := al_q hk hq
                subst hq
                refine v_go rfl ?_
                refine v_al rfl hu (fun q hq => ?_)
                have hq := al_q ho hq
                subst hq
                rcases hk4 with rfl | rfl | rfl | rfl
                all_goals
                  rcases ho4 with rfl | rfl | rfl | rfl
                  all_goals
                    refine v_go rfl ?_
                    refine v_bF rfl hne1 ?_
                    refine v_go rfl ?_
                    refine v_bT rfl hne2 ?_
                    refine v_go rfl ?_
                    refine v_bT rfl hlane ?_
                    refine v_go rfl ?_
                    refine v_ca rfl ?_
                    refine c_hasCells hk0 k3 hn60 (fun hr1 => ?_) (fun _ => ?_)
                    · refine v_go rfl ?_
                      refine v_bF rfl (by decide) ?_
                      refine v_go rfl ?_
                      refine v_ca rfl ?_
                      refine c_hasCells ho0 o3 hm60 (fun hr2 => absurd ⟨hr1, hr2⟩ hr) (fun _ => ?_)
                      refine v_go rfl ?_
                      refine v_bF rfl (by decide) ?_
                      refine v_go rfl ?_
                      refine v_ca rfl ?_
                      refine c_faulted ?_
                      rw [m_up_ii]
                      exact v_rt rfl trivial h
                    · refine v_go rfl ?_
                      refine v_bT rfl (by decide) ?_
                      refine v_go rfl ?_
                      refine v_ca rfl ?_
                      refine c_faulted ?_
                      rw [m_up_ii]
                      exact v_rt rfl trivial h
              · have hsk : shM k D (sh k) := hI.2.2.2.1 k hk
                have hso : shM o D (sh o) := hI.2.2.2.1 o ho
                rw [e1] at hsk
                rw [e2] at hso
                obtain ⟨k1, k2, k3⟩ := hsk
                obtain ⟨o1, o2, o3⟩ := hso
                have c64 : (v.toInt64).toInt = v.toInt := Int32.toInt_toInt64 _
                refine v_in (tb' := t_X5_copy) (rk' := 1) rfl rfl rfl ?_
                refine v_go rfl ?_
                refine v_ca rfl ?_
                refine c_noSheet (fun _ => ?_) (fun z => absurd hx z)
                refine v_go rfl ?_
                refine v_bF rfl (by decide) ?_
                refine v_go rfl ?_
                refine v_ca rfl ?_
                refine c_noSheet (fun _ => ?_) (fun z => absurd hu z)
                refine v_go rfl ?_
                refine v_bT rfl (by decide) ?_
                refine v_go rfl ?_
                refine v_sd rfl hx ?_
                rw [hck, k1]
                refine v_bF rfl (nI_pos (by omega)) ?_
                refine v_go rfl ?_
                refine v_sd rfl hu ?_
                rw [hco, o1]
                refine v_bT rfl (nI_pos' (by omega)) ?_
                refine v_go rfl ?_
                refine v_sd rfl hx ?_
                rw [hck, k2]
                refine v_go rfl ?_
                refine v_sd rfl hu ?_
                rw [hco, o2]
                refine v_bT rfl rfl ?_
                refine v_go rfl ?_
                refine v_sd rfl hx ?_
                rw [hck, k1]
                refine v_ca rfl ?_
                refine c_isBeyond hn60 (i64_small _) (fun hr1 => ?_) (fun _ => ?_)
                · rw [c64] at hr1
                  refine v_go rfl ?_
                  refine v_bF rfl (by decide) ?_
                  refine v_go rfl ?_
                  refine v_sd rfl hu ?_
                  rw [hco, o1]
                  refine v_ca rfl ?_
                  refine c_isBeyond hm60 (i64_small _) (fun hr2 => absurd ⟨hr1, by rw [c64] at hr2; exact hr2⟩ hr) (fun _ => ?_)
                  refine v_go rfl ?_
                  refine v_bF rfl (by decide) ?_
                  refine v_go rfl ?_
                  refine v_ca rfl ?_
                  refine c_failed ?_
                  exact v_rt rfl trivial (h _ ((frM.refl _).up (by omega)) (InvM_fl _ hI))
                · refine v_go rfl ?_
                  refine v_bT rfl (by decide) ?_
                  refine v_go rfl ?_
                  refine v_ca rfl ?_
                  refine c_failed ?_
                  exact v_rt rfl trivial (h _ ((frM.refl _).up (by omega)) (InvM_fl _ hI))
          · have hne : ¬ nI la = nI lb := fun z => hll ((nI_eq (by omega) (by omega)).mp z)
            refine ⟨-12, (S, rd, sh, tr, 2), hz, fun D Q hI h => ?_, fun D Q hI h => ?_⟩
            · have hI0 := InvC_fl 0 hI
              have hsk : shC k (m_up D 0 9 0) (sh k) := hI0.2.2.2.1 k hk
              have hso : shC o (m_up D 0 9 0) (sh o) := hI0.2.2.2.1 o ho
              rw [e1] at hsk
              rw [e2] at hso
              obtain ⟨k1, k2, k3, k4⟩ := hsk
              obtain ⟨o1, o2, o3, o4⟩ := hso
              have h := h (m_up D 0 9 2) ((frC.refl _).up (by omega)) (InvC_fl _ hI)
              have hne1 : ¬ m_up D 0 9 0 (24 + 2 * k) 1 = 0 := by rw [k1]; decide
              have hne2 : ¬ m_up D 0 9 0 (24 + 2 * o) 1 = 0 := by rw [o1]; decide
              have hlane : ¬ m_up D 0 9 0 (24 + 2 * k) 2 = m_up D 0 9 0 (24 + 2 * o) 2 := by rw [k2, o2]; exact hne
              refine v_in (tb' := t_X4_copy) (rk' := 1) rfl rfl rfl ?_
              refine v_go rfl ?_
              refine v_ca rfl ?_
              refine c_isSheet (fun _ => ?_) (fun z => absurd hx z)
              refine v_go rfl ?_
              refine v_bF rfl (by decide) ?_
              refine v_go rfl ?_
              refine v_ca rfl ?_
              refine c_isSheet (fun _ => ?_) (fun z => absurd hu z)
              refine v_go rfl ?_
              refine v_bT rfl (by decide) ?_
              refine v_go rfl ?_
              refine v_al rfl hx (fun q hq => ?_)
              have hq := al_q hk hq
              subst hq
              refine v_go rfl ?_
              refine v_al rfl hu (fun q hq => ?_)
              have hq := al_q ho hq
              subst hq
              rcases hk4 with rfl | rfl | rfl | rfl
              all_goals
                rcases ho4 with rfl | rfl | rfl | rfl
                all_goals
                  refine v_go rfl ?_
                  refine v_bF rfl hne1 ?_
                  refine v_go rfl ?_
                  refine v_bT rfl hne2 ?_
                  refine v_go rfl ?_
                  refine v_bF rfl hlane ?_
                  refine v_go rfl ?_
                  refine v_ca rfl ?_
                  refine c_faulted ?_
                  rw [m_up_ii]
                  exact v_rt rfl trivial h
            · have hsk : shM k D (sh k) := hI.2.2.2.1 k hk
              have hso : shM o D (sh o) := hI.2.2.2.1 o ho
              rw [e1] at hsk
              rw [e2] at hso
              obtain ⟨k1, k2, k3⟩ := hsk
              obtain ⟨o1, o2, o3⟩ := hso
              refine v_in (tb' := t_X5_copy) (rk' := 1) rfl rfl rfl ?_
              refine v_go rfl ?_
              refine v_ca rfl ?_
              refine c_noSheet (fun _ => ?_) (fun z => absurd hx z)
              refine v_go rfl ?_
              refine v_bF rfl (by decide) ?_
              refine v_go rfl ?_
              refine v_ca rfl ?_
              refine c_noSheet (fun _ => ?_) (fun z => absurd hu z)
              refine v_go rfl ?_
              refine v_bT rfl (by decide) ?_
              refine v_go rfl ?_
              refine v_sd rfl hx ?_
              rw [hck, k1]
              refine v_bF rfl (nI_pos (by omega)) ?_
              refine v_go rfl ?_
              refine v_sd rfl hu ?_
              rw [hco, o1]
              refine v_bT rfl (nI_pos' (by omega)) ?_
              refine v_go rfl ?_
              refine v_sd rfl hx ?_
              rw [hck, k2]
              refine v_go rfl ?_
              refine v_sd rfl hu ?_
              rw [hco, o2]
              refine v_bF rfl hne ?_
              refine v_go rfl ?_
              refine v_ca rfl ?_
              refine c_failed ?_
              exact v_rt rfl trivial (h _ ((frM.refl _).up (by omega)) (InvM_fl _ hI))
  · refine ⟨-1, (S, rd, sh, tr, 0), hz, fun D Q hI h => ?_, fun D Q hI h => ?_⟩
    · refine v_in (tb' := t_X4_copy) (rk' := 1) rfl rfl rfl ?_
      refine v_go rfl ?_
      refine v_ca rfl ?_
      refine c_isSheet (fun hx => ?_) (fun _ => ?_)
      · refine v_go rfl ?_
        refine v_bF rfl (by decide) ?_
        refine v_go rfl ?_
        refine v_ca rfl ?_
        refine c_isSheet (fun hu => absurd ⟨hx, hu⟩ hxu) (fun _ => ?_)
        refine v_go rfl ?_
        refine v_bF rfl (by decide) ?_
        exact v_go rfl (v_rt rfl trivial (h _ ((frC.refl _).up (by omega)) (InvC_fl _ hI)))
      · refine v_go rfl ?_
        refine v_bT rfl (by decide) ?_
        exact v_go rfl (v_rt rfl trivial (h _ ((frC.refl _).up (by omega)) (InvC_fl _ hI)))
    · refine v_in (tb' := t_X5_copy) (rk' := 1) rfl rfl rfl ?_
      refine v_go rfl ?_
      refine v_ca rfl ?_
      refine c_noSheet (fun hx => ?_) (fun _ => ?_)
      · refine v_go rfl ?_
        refine v_bF rfl (by decide) ?_
        refine v_go rfl ?_
        refine v_ca rfl ?_
        refine c_noSheet (fun hu => absurd ⟨hx, hu⟩ hxu) (fun _ => ?_)
        refine v_go rfl ?_
        refine v_bF rfl (by decide) ?_
        refine v_go rfl ?_
        refine v_ca rfl ?_
        refine c_refused ?_
        exact v_rt rfl trivial (h _ ((frM.refl _).up (by omega)) (InvM_fl _ hI))
      · refine v_go rfl ?_
        refine v_bT rfl (by decide) ?_
        refine v_go rfl ?_
        refine v_ca rfl ?_
        refine c_refused ?_
        exact v_rt rfl trivial (h _ ((frM.refl _).up (by omega)) (InvM_fl _ hI))
end
section
/-! ===== trials: become, beginnings; the reference's keeping ===== -/
theorem cpy0 {f g : Nat → Int32} {n j : Nat} (h : j < n) : va_cpy f g 0 0 n j = f j := by
  unfold va_cpy
  rw [if_pos (by omega), Nat.zero_add, Nat.sub_zero]
abbrev z_T : List Nat := [8, 9, 10, 11, 12, 13, 14]
theorem c_become {L d : Nat} {S : SH} {D : m_D} {Q : m_K} (hr : relC 1 D S) (ho : okS S) (h : ∀ D', m_fr z_T D D' → relC 8 D' S → Q none D') : m_call L (d + 2) 12 [.ref 8, .ref 1] D Q := by
  have c6 : ¬ (0 : Int32) < 0 ∧ ¬ (0 : Int32) < 0 ∧ ¬ (6 : Int32) < 0 ∧ (0 : Int32).toNatClampNeg + (6 : Int32).toNatClampNeg ≤ 6 ∧ (0 : Int32).toNatClampNeg + (6 : Int32).toNatClampNeg ≤ 6 := by decide
  have c3 : ¬ (0 : Int32) < 0 ∧ ¬ (0 : Int32) < 0 ∧ ¬ (3 : Int32) < 0 ∧ (0 : Int32).toNatClampNeg + (3 : Int32).toNatClampNeg ≤ 3 ∧ (0 : Int32).toNatClampNeg + (3 : Int32).toNatClampNeg ≤ 3 := by decide
  refine v_in (tb' := t_X2_become) (rk' := 0) rfl rfl rfl ?_
  refine v_go rfl (v_sd rfl c6 ?_)
  refine v_go rfl (v_sd rfl c6 ?_)
  refine v_go rfl (v_sd rfl c3 ?_)
  refine v_go rfl (v_sd rfl c3 ?_)
  refine v_go rfl (v_sd rfl c3 ?_)
  refine v_go rfl (v_sd rfl c6 ?_)
  obtain ⟨h1, h2, h3, h4, h5⟩ := hr
  obtain ⟨o1, o2, -, -⟩ := ho
  refine v_rt rfl trivial (h _ (fun a ha => ?_) ⟨h1, h2, fun l hl => ⟨?_, ?_⟩, fun c hc => ⟨?_, ?_, ?_⟩, fun t ht => ?_⟩)
  · simp only [z_T, List.mem_cons, List.not_mem_nil, or_false, not_or] at ha
    obtain ⟨a8, a9, a10, a11, a12, a13, a14⟩ := ha
    rw [m_cp_ne a14, m_cp_ne a13, m_cp_ne a12, m_cp_ne a11, m_cp_ne a10, m_cp_ne a9, m_up_ne a8, m_up_ne a8]
  · exact (cpy0 (f := D 2) (n := 6) (by omega)).trans (h3 l hl).1
  · exact (cpy0 (f := D 3) (n := 6) (by omega)).trans (h3 l hl).2
  · exact (cpy0 (f := D 4) (n := 3) (by omega)).trans (h4 c hc).1
  · exact (cpy0 (f := D 5) (n := 3) (by omega)).trans (h4 c hc).2.1
  · exact (cpy0 (f := D 6) (n := 3) (by omega)).trans (h4 c hc).2.2
  · exact (cpy0 (f := D 7) (n := 6) (by omega)).trans (h5 t ht)
theorem InvC_T {Z : ZS} {D D' : m_D} (h : InvC Z D) (hf : m_fr z_T D D') : InvC Z D' := InvC_keep h (fun a ha => hf a (by
  simp only [z_T, List.mem_cons, List.not_mem_nil, or_false]
  omega))
abbrev z_FT : List Nat := [8, 9, 10, 11, 12, 13, 14, 15, 16, 17, 18, 19, 20]
theorem InvC_FT {Z : ZS} {D D' : m_D} (h : InvC Z D) (hf : m_fr z_FT D D') : InvC Z D' := InvC_keep h (fun a ha => hf a (by
  simp only [z_FT, List.mem_cons, List.not_mem_nil, or_false]
  omega))
theorem frC_FT {D D' : m_D} (hf : m_fr z_FT D D') : frC D D' := frC.of hf (by decide)
theorem fT {D D' : m_D} (hf : m_fr z_T D D') : m_fr z_FT D D' := hf.sub (by simp)
theorem fF {D D' : m_D} (hf : m_fr z_F D D') : m_fr z_FT D D' := hf.sub (by simp)
/-- how many beginnings -/
def p_nb (S : SH) : Nat := S.1 ^ S.2.1
theorem p_nb_lt {S : SH} (ho : okS S) : p_nb S ≤ 216 := by
  have h1 : S.1 ^ S.2.1 ≤ 6 ^ S.2.1 := Nat.pow_le_pow_left ho.1 _
  have h2 : 6 ^ S.2.1 ≤ 6 ^ 3 := Nat.pow_le_pow_right (by omega) ho.2.1
  exact Nat.le_trans h1 h2
theorem p_pow_lt {S : SH} (ho : okS S) {c : Nat} (hc : c ≤ 3) : S.1 ^ c ≤ 216 := by
  have h1 : S.1 ^ c ≤ 6 ^ c := Nat.pow_le_pow_left ho.1 _
  have h2 : 6 ^ c ≤ 6 ^ 3 := Nat.pow_le_pow_right (by omega) hc
  exact Nat.le_trans h1 h2
theorem c_beginnings {L d : Nat} {S : SH} {D : m_D} {Q : m_K} (hr : relC 1 D S) (ho : okS S) (h : Q (some (.int (nI (p_nb S)))) D) : m_call L (d + 1) 19 [.ref 1] D Q := by
  have r1 : D 1 0 = nI S.1 := hr.1
  have r2 : D 1 1 = nI S.2.1 := hr.2.1
  have hk3 := ho.2.1
  have key : ∀ (m c : Nat), c + m = S.2.1 → m_V L d Q t_X2_beginnings 1 (4, [some (.ref 1), some (.int (nI (S.1 ^ c))), some (.int (nI c))], [], D) := by
    intro m
    induction m with
    | zero =>
      intro c hc
      have hc : c = S.2.1 := by omega
      subst hc
      refine v_go rfl ?_
      rw [r2]
      refine v_bT rfl (Int32.le_refl _) ?_
      exact v_go rfl (v_rt rfl trivial h)
    | succ m ih =>
      intro c hc
      have ih := ih (c + 1) (by omega)
      rw [Nat.pow_succ, ← pk_mul, ← nI_1, ← r1] at ih
      refine v_go rfl ?_
      rw [r2]
      refine v_bF rfl (nI_ge (by omega) (by omega)) ?_
      exact v_run 7 rfl ih
  refine v_in (tb' := t_X2_beginnings) (rk' := 1) rfl rfl rfl ?_
  exact v_run 4 rfl (key S.2.1 0 (by omega))
theorem c_beginningsM {L d : Nat} {S : SH} {D : m_D} {Q : m_K} (hr : relM D S) (ho : okS S) (h : Q (some (.int (nI (p_nb S)))) D) : m_call L (d + 1) 132 [.ref 34] D Q := by
  have r1 : D 34 1 = nI S.1 := hr.1
  have r2 : D 34 2 = nI S.2.1 := hr.2.1
  have hk3 := ho.2.1
  have key : ∀ (m c : Nat), c + m = S.2.1 → m_V L d Q t_X5_beginnings 1 (4, [some (.ref 34), some (.int (nI (S.1 ^ c))), some (.int (nI c))], [], D) := by
    intro m
    induction m with
    | zero =>
      intro c hc
      have hc : c = S.2.1 := by omega
      subst hc
      refine v_go rfl ?_
      rw [r2]
      refine v_bT rfl (Int32.le_refl _) ?_
      exact v_go rfl (v_rt rfl trivial h)
    | succ m ih =>
      intro c hc
      have ih := ih (c + 1) (by omega)
      rw [Nat.pow_succ, ← pk_mul, ← nI_1, ← r1] at ih
      refine v_go rfl ?_
      rw [r2]
      refine v_bF rfl (nI_ge (by omega) (by omega)) ?_
      exact v_run 7 rfl ih
  refine v_in (tb' := t_X5_beginnings) (rk' := 1) rfl rfl rfl ?_
  exact v_run 4 rfl (key S.2.1 0 (by omega))
/-- the beginning of a number -/
def p_dig (S : SH) (b c : Nat) : Nat := b / S.1 ^ (S.2.1 - 1 - c) % S.1
def begS (S : SH) (b : Nat) : SH := (S.1, S.2.1, fun i c => if i = 4 then p_dig S b c else S.2.2.1 i c, S.2.2.2)
theorem begS_begS (S : SH) (a b : Nat) : begS (begS S a) b = begS S b := by
  unfold begS
  congr 3
  funext i c
  by_cases e : i = 4
  · rw [if_pos e, if_pos e]
    rfl
  · rw [if_neg e, if_neg e]
    exact if_neg e
theorem okS_beg {S : SH} {b : Nat} (ho : okS S) (hn : S.1 ≠ 0) : okS (begS S b) := by
  obtain ⟨h1, h2, h3, h4⟩ := ho
  refine ⟨h1, h2, fun l hl => ?_, fun c hc => ?_⟩
  · exact h3 l hl
  · exact ⟨(h4 c hc).1, (h4 c hc).2.1, (h4 c hc).2.2.1, Nat.mod_lt _ (by show 0 < S.1; omega)⟩
theorem nI_m1 (n : Nat) : nI n + -1 = nI n - 1 := (Int32.sub_eq_add_neg _ _).symm
theorem dig_step {n k i b : Nat} (hi : i + 1 ≤ k) : b / n ^ (k - (i + 1)) / n = b / n ^ (k - i) := by
  rw [Nat.div_div_eq_div_mul, ← Nat.pow_succ, show (k - (i + 1)).succ = k - i by omega]
theorem c_beginBy {L d b : Nat} {S : SH} {D : m_D} {Q : m_K} (hr : relC 8 D S) (ho : okS S) (hn : S.1 ≠ 0) (hb : b < 1000) (h : ∀ D', m_fr [13] D D' → relC 8 D' (begS S b) → Q none D') : m_call L (d + 1) 20 [.ref 8, .int (nI b)] D Q := by
  have hk3 := ho.2.1
  have hn6 := ho.1
  have key : ∀ (i : Nat) (D1 : m_D), i ≤ S.2.1 → m_fr [13] D D1 → (∀ j, i ≤ j → j < S.2.1 → D1 13 j = nI (p_dig S b j)) → m_V L d Q t_X2_beginBy 0 (18, [some (.ref 8), some (.int (nI b)), some (.int (nI (b / S.1 ^ (S.2.1 - i)))), some (.int (nI i - 1))], [], D1) := by
    intro i
    induction i with
    | zero =>
      intro D1 hi hf hd
      refine v_go rfl ?_
      refine v_bT rfl (by decide) ?_
      refine v_rt rfl trivial (h D1 hf ?_)
      obtain ⟨h1, h2, h3, h4, h5⟩ := hr
      have e : ∀ a, a ≠ 13 → D1 a = D a := fun a ha => hf a (by simpa using ha)
      refine ⟨by rw [e 8 (by omega)]; exact h1, by rw [e 8 (by omega)]; exact h2, fun l hl => ?_, fun c hc => ⟨?_, ?_, hd c (by omega) hc⟩, fun t ht => ?_⟩
      · rw [e (8 + 1) (by omega), e (8 + 2) (by omega)]
        exact h3 l hl
      · rw [e (8 + 3) (by omega)]
        exact (h4 c hc).1
      · rw [e (8 + 4) (by omega)]
        exact (h4 c hc).2.1
      · rw [e (8 + 6) (by omega)]
        exact h5 t ht
    | succ i ih =>
      intro D1 hi hf hd
      have r1 : D1 8 0 = nI S.1 := by rw [hf 8 (by simp)]; exact hr.1
      have hin : vp_in (nI i) 3 := vp_in_nI (by omega) (by omega)
      have hcl : (nI i).toNatClampNeg = i := nI_clamp (by omega)
      have hq : b / S.1 ^ (S.2.1 - (i + 1)) < 1000 := Nat.lt_of_le_of_lt (Nat.div_le_self _ _) hb
      have hne : ¬ nI S.1 = 0 := nI_ne0 (by omega) (by omega)
      have ih := ih (m_up D1 13 i (nI (p_dig S b i))) (by omega) (hf.up (by simp)) (fun j h1 h2 => by
        by_cases e : j = i
        · rw [e, m_up_s]
        · rw [m_up_n e]
          exact hd j (by omega) h2)
      have er : nI (b / S.1 ^ (S.2.1 - (i + 1))) - nI (b / S.1 ^ (S.2.1 - (i + 1))) / nI S.1 * nI S.1 = nI (p_dig S b i) := by
        rw [pk_rem (by omega) (by omega) (by omega)]
        unfold p_dig
        rw [show S.2.1 - 1 - i = S.2.1 - (i + 1) by omega]
      have ed : nI (b / S.1 ^ (S.2.1 - (i + 1))) / nI S.1 = nI (b / S.1 ^ (S.2.1 - i)) := by
        rw [pk_div (by omega) (by omega) (by omega), dig_step hi]
      rw [nI_pred, ← nI_m1] at *
      refine v_go rfl ?_
      refine v_bF rfl (nI_pos (by omega)) ?_
      refine v_go rfl ?_
      rw [r1]
      refine v_sd rfl hne ?_
      rw [er]
      refine v_sd rfl hin ?_
      rw [hcl]
      refine v_go rfl ?_
      have r1' : m_up D1 13 i (nI (p_dig S b i)) 8 0 = nI S.1 := r1
      rw [r1']
      refine v_sd rfl hne ?_
      rw [ed]
      exact v_run 3 rfl ih
  have r1 : D 8 0 = nI S.1 := hr.1
  have r2 : D 8 1 = nI S.2.1 := hr.2.1
  have hk := key S.2.1 D (Nat.le_refl _) (m_fr.refl _ _) (fun j h1 h2 => absurd h2 (by omega))
  rw [Nat.sub_self, Nat.pow_zero, Nat.div_one, ← r2] at hk
  refine v_in (tb' := t_X2_beginBy) (rk' := 0) rfl rfl rfl ?_
  refine v_go rfl ?_
  rw [r1]
  refine v_bT rfl (nI_le (a := 1) (by omega) (by omega)) ?_
  exact v_run 7 rfl hk
theorem c_begins {L d b : Nat} {S : SH} {D : m_D} {Q : m_K} (hr : relM D S) (ho : okS S) (hn : S.1 ≠ 0) (hb : b < 1000) (h : ∀ D', m_fM [39] [] D D' → relM D' (begS S b) → Q none D') : m_call L (d + 1) 133 [.ref 34, .int (nI b)] D Q := by
  have hk3 := ho.2.1
  have hn6 := ho.1
  have key : ∀ (i : Nat) (D1 : m_D), i ≤ S.2.1 → m_fM [39] [] D D1 → (∀ j, i ≤ j → j < S.2.1 → D1 39 j = nI (p_dig S b j)) → m_V L d Q t_X5_begins 0 (9, [some (.ref 34), some (.int (nI b)), some (.int (nI (b / S.1 ^ (S.2.1 - i)))), some (.int (nI i - 1))], [], D1) := by
    intro i
    induction i with
    | zero =>
      intro D1 hi hf hd
      refine v_go rfl ?_
      refine v_bT rfl (by decide) ?_
      refine v_rt rfl trivial (h D1 hf ?_)
      obtain ⟨h1, h2, h3, h4, h5⟩ := hr
      have e : ∀ a, a ≠ 39 → a ≠ 34 → D1 a = D a := fun a ha hb => hf.1 a (by simpa using ha) hb
      refine ⟨by rw [hf.2 1 (by simp)]; exact h1, by rw [hf.2 2 (by simp)]; exact h2, fun l hl => ?_, fun c hc => ⟨?_, ?_, hd c (by omega) hc⟩, fun t ht => ?_⟩
      · rw [e 35 (by omega) (by omega), e 36 (by omega) (by omega)]
        exact h3 l hl
      · rw [e 37 (by omega) (by omega)]
        exact (h4 c hc).1
      · rw [e 38 (by omega) (by omega)]
        exact (h4 c hc).2.1
      · rw [e 40 (by omega) (by omega)]
        exact h5 t ht
    | succ i ih =>
      intro D1 hi hf hd
      have r1 : D1 34 1 = nI S.1 := by rw [hf.2 1 (by simp)]; exact hr.1
      have hin : vp_in (nI i) 3 := vp_in_nI (by omega) (by omega)
      have hcl : (nI i).toNatClampNeg = i := nI_clamp (by omega)
      have hq : b / S.1 ^ (S.2.1 - (i + 1)) < 1000 := Nat.lt_of_le_of_lt (Nat.div_le_self _ _) hb
      have hne : ¬ nI S.1 = 0 := nI_ne0 (by omega) (by omega)
      have ih := ih (m_up D1 39 i (nI (p_dig S b i))) (by omega) (hf.up (by simp) (by decide)) (fun j h1 h2 => by
        by_cases e : j = i
        · rw [e, m_up_s]
        · rw [m_up_n e]
          exact hd j (by omega) h2)
      have er : nI (b / S.1 ^ (S.2.1 - (i + 1))) - nI (b / S.1 ^ (S.2.1 - (i + 1))) / nI S.1 * nI S.1 = nI (p_dig S b i) := by
        rw [pk_rem (by omega) (by omega) (by omega)]
        unfold p_dig
        rw [show S.2.1 - 1 - i = S.2.1 - (i + 1) by omega]
      have ed : nI (b / S.1 ^ (S.2.1 - (i + 1))) / nI S.1 = nI (b / S.1 ^ (S.2.1 - i)) := by
        rw [pk_div (by omega) (by omega) (by omega), dig_step hi]
      rw [nI_pred, ← nI_m1] at *
      refine v_go rfl ?_
      refine v_bF rfl (nI_pos (by omega)) ?_
      refine v_go rfl ?_
      rw [r1]
      refine v_sd rfl hne ?_
      rw [er]
      refine v_sd rfl hin ?_
      rw [hcl]
      refine v_go rfl ?_
      have r1' : m_up D1 39 i (nI (p_dig S b i)) 34 1 = nI S.1 := r1
      rw [r1']
      refine v_sd rfl hne ?_
      rw [ed]
      exact v_run 3 rfl ih
  have r1 : D 34 1 = nI S.1 := hr.1
  have r2 : D 34 2 = nI S.2.1 := hr.2.1
  have hk := key S.2.1 D (Nat.le_refl _) (m_fM.refl _ _ _) (fun j h1 h2 => absurd h2 (by omega))
  rw [Nat.sub_self, Nat.pow_zero, Nat.div_one, ← r2] at hk
  refine v_in (tb' := t_X5_begins) (rk' := 0) rfl rfl rfl ?_
  exact v_run 7 rfl hk
end
section
/-! ===== the reference's keeping and bringing back; startIn ===== -/
def relH (D : m_D) (S : SH) : Prop := (∀ l, l < S.1 → D 51 l = nI (S.2.2.1 0 l)) ∧ (∀ c, c < S.2.1 → D 52 c = nI (S.2.2.1 4 c)) ∧ ∀ f, f < 4 → D 53 f = nI (b_sum (fun t => S.2.2.2 f t) 6)
theorem c_keeps {L d : Nat} {S : SH} {D : m_D} {Q : m_K} (hr : relM D S) (ho : okS S) (h : ∀ D', m_fM [51, 52, 53] [] D D' → relH D' S → Q none D') : m_call L (d + 1) 129 [.ref 34] D Q := by
  have hn6 := ho.1
  have hk3 := ho.2.1
  have hs0 : ∀ l, l < S.1 → D 35 l = nI (S.2.2.1 0 l) := fun l hl => (hr.2.2.1 l hl).1
  have hs1 : ∀ c, c < S.2.1 → D 39 c = nI (S.2.2.1 4 c) := fun c hc => (hr.2.2.2.1 c hc).2.2
  have hs2 : ∀ f, f < 4 → D 40 f = nI (b_sum (fun t => S.2.2.2 f t) 6) := hr.2.2.2.2
  have k3 : ∀ (m i : Nat) (D1 : m_D), i + m = 4 → m_fM [51, 52, 53] [] D D1 → (∀ q, q < S.1 → D1 51 q = nI (S.2.2.1 0 q)) → (∀ q, q < S.2.1 → D1 52 q = nI (S.2.2.1 4 q)) → (∀ q, q < i → D1 53 q = nI (b_sum (fun t => S.2.2.2 q t) 6)) → m_V L d Q t_X5_keeps 0 (58, [some (.ref 34), some (.int (nI i))], [], D1) := by
    intro m
    induction m with
    | zero =>
      intro i D1 hi hf g0 g1 hp
      have hi : i = 4 := by omega
      subst hi
      refine v_go rfl ?_
      refine v_bT rfl (Int32.le_refl _) ?_
      exact v_rt rfl trivial (h D1 hf ⟨g0, g1, hp⟩)
    | succ m ih =>
      intro i D1 hi hf g0 g1 hp
      have hin : vp_in (nI i) 4 := vp_in_nI (by omega) (by omega)
      have hcl : (nI i).toNatClampNeg = i := nI_clamp (by omega)
      have es : D1 40 i = nI (b_sum (fun t => S.2.2.2 i t) 6) := by rw [hf.1 40 (by simp) (by decide)]; exact hs2 i (by omega)
      have ih := ih (i + 1) (m_up D1 53 i (nI (b_sum (fun t => S.2.2.2 i t) 6))) (by omega) (hf.up (by simp) (by decide)) g0 g1 (fun q hq => by
        by_cases e : q = i
        · rw [e, m_up_s]
        · rw [m_up_n e]
          exact hp q (by omega))
      rw [← nI_1] at ih
      refine v_go rfl ?_
      refine v_bF rfl (nI_ge (b := 4) (by omega) (by omega)) ?_
      refine v_go rfl ?_
      refine v_sd rfl hin ?_
      rw [hcl, es]
      refine v_sd rfl hin ?_
      rw [hcl]
      exact v_run 2 rfl ih
  have k2 : ∀ (m i : Nat) (D1 : m_D), i + m = S.2.1 → m_fM [51, 52, 53] [] D D1 → (∀ q, q < S.1 → D1 51 q = nI (S.2.2.1 0 q)) → (∀ q, q < i → D1 52 q = nI (S.2.2.1 4 q)) → m_V L d Q t_X5_keeps 0 (30, [some (.ref 34), some (.int (nI i))], [], D1) := by
    intro m
    induction m with
    | zero =>
      intro i D1 hi hf g0 hp
      have hi : i = S.2.1 := by omega
      subst hi
      have rb : D1 34 2 = nI (S.2.1) := by rw [hf.2 2 (by simp)]; exact hr.2.1
      refine v_go rfl ?_
      rw [rb]
      refine v_bT rfl (Int32.le_refl _) ?_
      exact v_run 2 rfl (k3 (4) 0 D1 (by omega) hf g0 hp (fun q hq => absurd hq (by omega)))
    | succ m ih =>
      intro i D1 hi hf g0 hp
      have rb : D1 34 2 = nI (S.2.1) := by rw [hf.2 2 (by simp)]; exact hr.2.1
      have hin : vp_in (nI i) 3 := vp_in_nI (by omega) (by omega)
      have hcl : (nI i).toNatClampNeg = i := nI_clamp (by omega)
      have es : D1 39 i = nI (S.2.2.1 4 i) := by rw [hf.1 39 (by simp) (by decide)]; exact hs1 i (by omega)
      have ih := ih (i + 1) (m_up D1 52 i (nI (S.2.2.1 4 i))) (by omega) (hf.up (by simp) (by decide)) g0 (fun q hq => by
        by_cases e : q = i
        · rw [e, m_up_s]
        · rw [m_up_n e]
          exact hp q (by omega))
      rw [← nI_1] at ih
      refine v_go rfl ?_
      rw [rb]
      refine v_bF rfl (nI_ge (b := S.2.1) (by omega) (by omega)) ?_
      refine v_go rfl ?_
      refine v_sd rfl hin ?_
      rw [hcl, es]
      refine v_sd rfl hin ?_
      rw [hcl]
      exact v_run 2 rfl ih
  have k1 : ∀ (m i : Nat) (D1 : m_D), i + m = S.1 → m_fM [51, 52, 53] [] D D1 → (∀ q, q < i → D1 51 q = nI (S.2.2.1 0 q)) → m_V L d Q t_X5_keeps 0 (2, [some (.ref 34), some (.int (nI i))], [], D1) := by
    intro m
    induction m with
    | zero =>
      intro i D1 hi hf hp
      have hi : i = S.1 := by omega
      subst hi
      have rb : D1 34 1 = nI (S.1) := by rw [hf.2 1 (by simp)]; exact hr.1
      refine v_go rfl ?_
      rw [rb]
      refine v_bT rfl (Int32.le_refl _) ?_
      exact v_run 2 rfl (k2 (S.2.1) 0 D1 (by omega) hf hp (fun q hq => absurd hq (by omega)))
    | succ m ih =>
      intro i D1 hi hf hp
      have rb : D1 34 1 = nI (S.1) := by rw [hf.2 1 (by simp)]; exact hr.1
      have hin : vp_in (nI i) 6 := vp_in_nI (by omega) (by omega)
      have hcl : (nI i).toNatClampNeg = i := nI_clamp (by omega)
      have es : D1 35 i = nI (S.2.2.1 0 i) := by rw [hf.1 35 (by simp) (by decide)]; exact hs0 i (by omega)
      have ih := ih (i + 1) (m_up D1 51 i (nI (S.2.2.1 0 i))) (by omega) (hf.up (by simp) (by decide)) (fun q hq => by
        by_cases e : q = i
        · rw [e, m_up_s]
        · rw [m_up_n e]
          exact hp q (by omega))
      rw [← nI_1] at ih
      refine v_go rfl ?_
      rw [rb]
      refine v_bF rfl (nI_ge (b := S.1) (by omega) (by omega)) ?_
      refine v_go rfl ?_
      refine v_sd rfl hin ?_
      rw [hcl, es]
      refine v_sd rfl hin ?_
      rw [hcl]
      exact v_run 2 rfl ih
  refine v_in (tb' := t_X5_keeps) (rk' := 0) rfl rfl rfl ?_
  exact v_run 2 rfl (k1 (S.1) 0 D (by omega) (m_fM.refl _ _ _) (fun q hq => absurd hq (by omega)))
theorem c_brings {L d : Nat} {S S1 : SH} {D : m_D} {Q : m_K} (hr1 : relM D S1) (ho : okS S) (e1 : S1.1 = S.1) (e2 : S1.2.1 = S.2.1) (eT : ∀ i c, i = 1 ∨ i = 2 ∨ i = 3 → S1.2.2.1 i c = S.2.2.1 i c) (hh : relH D S) (h : ∀ D', m_fM [35, 39, 40] [] D D' → relM D' S → Q none D') : m_call L (d + 1) 130 [.ref 34] D Q := by
  have hn6 := ho.1
  have hk3 := ho.2.1
  obtain ⟨hs0, hs1, hs2⟩ := hh
  have hr : D 34 1 = nI S.1 ∧ D 34 2 = nI S.2.1 ∧ True := ⟨by rw [← e1]; exact hr1.1, by rw [← e2]; exact hr1.2.1, trivial⟩
  have k3 : ∀ (m i : Nat) (D1 : m_D), i + m = 4 → m_fM [35, 39, 40] [] D D1 → (∀ q, q < S.1 → D1 35 q = nI (S.2.2.1 0 q)) → (∀ q, q < S.2.1 → D1 39 q = nI (S.2.2.1 4 q)) → (∀ q, q < i → D1 40 q = nI (b_sum (fun t => S.2.2.2 q t) 6)) → m_V L d Q t_X5_bringsBack 0 (58, [some (.ref 34), some (.int (nI i))], [], D1) := by
    intro m
    induction m with
    | zero =>
      intro i D1 hi hf g0 g1 hp
      have hi : i = 4 := by omega
      subst hi
      refine v_go rfl ?_
      refine v_bT rfl (Int32.le_refl _) ?_
      exact v_rt rfl trivial (h D1 hf ⟨by rw [hf.2 1 (by simp)]; exact hr.1, by rw [hf.2 2 (by simp)]; exact hr.2.1, fun l hl => ⟨g0 l hl, by rw [hf.1 36 (by simp) (by decide), ← eT 1 l (by omega)]; exact (hr1.2.2.1 l (by rw [e1]; exact hl)).2⟩, fun c hc => ⟨by rw [hf.1 37 (by simp) (by decide), ← eT 2 c (by omega)]; exact (hr1.2.2.2.1 c (by rw [e2]; exact hc)).1, by rw [hf.1 38 (by simp) (by decide), ← eT 3 c (by omega)]; exact (hr1.2.2.2.1 c (by rw [e2]; exact hc)).2.1, g1 c hc⟩, hp⟩)
    | succ m ih =>
      intro i D1 hi hf g0 g1 hp
      have hin : vp_in (nI i) 4 := vp_in_nI (by omega) (by omega)
      have hcl : (nI i).toNatClampNeg = i := nI_clamp (by omega)
      have es : D1 53 i = nI (b_sum (fun t => S.2.2.2 i t) 6) := by rw [hf.1 53 (by simp) (by decide)]; exact hs2 i (by omega)
      have ih := ih (i + 1) (m_up D1 40 i (nI (b_sum (fun t => S.2.2.2 i t) 6))) (by omega) (hf.up (by simp) (by decide)) g0 g1 (fun q hq => by
        by_cases e : q = i
        · rw [e, m_up_s]
        · rw [m_up_n e]
          exact hp q (by omega))
      rw [← nI_1] at ih
      refine v_go rfl ?_
      refine v_bF rfl (nI_ge (b := 4) (by omega) (by omega)) ?_
      refine v_go rfl ?_
      refine v_sd rfl hin ?_
      rw [hcl, es]
      refine v_sd rfl hin ?_
      rw [hcl]
      exact v_run 2 rfl ih
  have k2 : ∀ (m i : Nat) (D1 : m_D), i + m = S.2.1 → m_fM [35, 39, 40] [] D D1 → (∀ q, q < S.1 → D1 35 q = nI (S.2.2.1 0 q)) → (∀ q, q < i → D1 39 q = nI (S.2.2.1 4 q)) → m_V L d Q t_X5_bringsBack 0 (30, [some (.ref 34), some (.int (nI i))], [], D1) := by
    intro m
    induction m with
    | zero =>
      intro i D1 hi hf g0 hp
      have hi : i = S.2.1 := by omega
      subst hi
      have rb : D1 34 2 = nI (S.2.1) := by rw [hf.2 2 (by simp)]; exact hr.2.1
      refine v_go rfl ?_
      rw [rb]
      refine v_bT rfl (Int32.le_refl _) ?_
      exact v_run 2 rfl (k3 (4) 0 D1 (by omega) hf g0 hp (fun q hq => absurd hq (by omega)))
    | succ m ih =>
      intro i D1 hi hf g0 hp
      have rb : D1 34 2 = nI (S.2.1) := by rw [hf.2 2 (by simp)]; exact hr.2.1
      have hin : vp_in (nI i) 3 := vp_in_nI (by omega) (by omega)
      have hcl : (nI i).toNatClampNeg = i := nI_clamp (by omega)
      have es : D1 52 i = nI (S.2.2.1 4 i) := by rw [hf.1 52 (by simp) (by decide)]; exact hs1 i (by omega)
      have ih := ih (i + 1) (m_up D1 39 i (nI (S.2.2.1 4 i))) (by omega) (hf.up (by simp) (by decide)) g0 (fun q hq => by
        by_cases e : q = i
        · rw [e, m_up_s]
        · rw [m_up_n e]
          exact hp q (by omega))
      rw [← nI_1] at ih
      refine v_go rfl ?_
      rw [rb]
      refine v_bF rfl (nI_ge (b := S.2.1) (by omega) (by omega)) ?_
      refine v_go rfl ?_
      refine v_sd rfl hin ?_
      rw [hcl, es]
      refine v_sd rfl hin ?_
      rw [hcl]
      exact v_run 2 rfl ih
  have k1 : ∀ (m i : Nat) (D1 : m_D), i + m = S.1 → m_fM [35, 39, 40] [] D D1 → (∀ q, q < i → D1 35 q = nI (S.2.2.1 0 q)) → m_V L d Q t_X5_bringsBack 0 (2, [some (.ref 34), some (.int (nI i))], [], D1) := by
    intro m
    induction m with
    | zero =>
      intro i D1 hi hf hp
      have hi : i = S.1 := by omega
      subst hi
      have rb : D1 34 1 = nI (S.1) := by rw [hf.2 1 (by simp)]; exact hr.1
      refine v_go rfl ?_
      rw [rb]
      refine v_bT rfl (Int32.le_refl _) ?_
      exact v_run 2 rfl (k2 (S.2.1) 0 D1 (by omega) hf hp (fun q hq => absurd hq (by omega)))
    | succ m ih =>
      intro i D1 hi hf hp
      have rb : D1 34 1 = nI (S.1) := by rw [hf.2 1 (by simp)]; exact hr.1
      have hin : vp_in (nI i) 6 := vp_in_nI (by omega) (by omega)
      have hcl : (nI i).toNatClampNeg = i := nI_clamp (by omega)
      have es : D1 51 i = nI (S.2.2.1 0 i) := by rw [hf.1 51 (by simp) (by decide)]; exact hs0 i (by omega)
      have ih := ih (i + 1) (m_up D1 35 i (nI (S.2.2.1 0 i))) (by omega) (hf.up (by simp) (by decide)) (fun q hq => by
        by_cases e : q = i
        · rw [e, m_up_s]
        · rw [m_up_n e]
          exact hp q (by omega))
      rw [← nI_1] at ih
      refine v_go rfl ?_
      rw [rb]
      refine v_bF rfl (nI_ge (b := S.1) (by omega) (by omega)) ?_
      refine v_go rfl ?_
      refine v_sd rfl hin ?_
      rw [hcl, es]
      refine v_sd rfl hin ?_
      rw [hcl]
      exact v_run 2 rfl ih
  refine v_in (tb' := t_X5_bringsBack) (rk' := 0) rfl rfl rfl ?_
  exact v_run 2 rfl (k1 (S.1) 0 D (by omega) (m_fM.refl _ _ _) (fun q hq => absurd hq (by omega)))
theorem c_startInM {L d b c : Nat} {S : SH} {D : m_D} {Q : m_K} (hr : relM D S) (ho : okS S) (hn : S.1 ≠ 0) (hb : b < 1000) (hc : c < S.2.1) (h : Q (some (.int (nI (p_dig S b c)))) D) : m_call L (d + 1) 134 [.ref 34, .int (nI b), .int (nI c)] D Q := by
  have hk3 := ho.2.1
  have hn6 := ho.1
  have r1 : D 34 1 = nI S.1 := hr.1
  have r2 : D 34 2 = nI S.2.1 := hr.2.1
  have hne : ¬ nI S.1 = 0 := nI_ne0 (by omega) (by omega)
  have key : ∀ (m i : Nat), i + m = S.2.1 - 1 - c → m_V L d Q t_X5_startIn 1 (10, [some (.ref 34), some (.int (nI b)), some (.int (nI c)), some (.int (nI (b / S.1 ^ i))), some (.int (nI (S.2.1 - 1 - i)))], [], D) := by
    intro m
    induction m with
    | zero =>
      intro i hi
      have hi : i = S.2.1 - 1 - c := by omega
      have hq : b / S.1 ^ i < 1000 := Nat.lt_of_le_of_lt (Nat.div_le_self _ _) hb
      refine v_go rfl ?_
      refine v_bT rfl (nI_le (by omega) (by omega)) ?_
      refine v_go rfl ?_
      rw [r1]
      refine v_sd rfl hne ?_
      refine v_rt rfl trivial ?_
      rw [pk_rem (by omega) (by omega) (by omega), hi]
      exact h
    | succ m ih =>
      intro i hi
      have hq : b / S.1 ^ i < 1000 := Nat.lt_of_le_of_lt (Nat.div_le_self _ _) hb
      have ih := ih (i + 1) (by omega)
      have e1 : nI (S.2.1 - 1 - i) + -1 = nI (S.2.1 - 1 - (i + 1)) := by
        rw [nI_m1, nI_p (by omega)]
        congr 1
      have e2 : nI (b / S.1 ^ i) / nI S.1 = nI (b / S.1 ^ (i + 1)) := by
        rw [pk_div (by omega) (by omega) (by omega), Nat.div_div_eq_div_mul, ← Nat.pow_succ]
      rw [← e1, ← e2] at ih
      refine v_go rfl ?_
      refine v_bF rfl (fun z => absurd ((nI_leI (by omega) (by omega)).mp z) (by omega)) ?_
      refine v_go rfl ?_
      rw [r1]
      refine v_sd rfl hne ?_
      exact v_run 3 rfl ih
  have hk := key (S.2.1 - 1 - c) 0 (by omega)
  rw [Nat.pow_zero, Nat.div_one, Nat.sub_zero, ← nI_p (by omega), ← r2] at hk
  refine v_in (tb' := t_X5_startIn) (rk' := 1) rfl rfl rfl ?_
  exact v_run 7 rfl hk
theorem c_startInC {L d b c : Nat} {S : SH} {D : m_D} {Q : m_K} (hr1 : relC 1 D S) (hr : ∃ S1, relC 8 D S1 ∧ okS S1 ∧ S1.1 = S.1 ∧ S1.2.1 = S.2.1 ∧ ∀ b, begS S1 b = begS S b) (ho : okS S) (hn : S.1 ≠ 0) (hb : b < 1000) (hc : c < S.2.1) (h : ∀ D', m_fr [13] D D' → Q (some (.int (nI (p_dig S b c)))) D') : m_call L (d + 2) 46 [.ref 0, .int (nI b), .int (nI c)] D Q := by
  obtain ⟨S1, hr, ho1, e1, e2, eb⟩ := hr
  have hk3 := ho.2.1
  have hx : vp_in (nI c) S.2.1 := vp_in_nI hc (by omega)
  have hin : vp_in (nI c) 3 := vp_in_nI (by omega) (by omega)
  have hcl : (nI c).toNatClampNeg = c := nI_clamp (by omega)
  refine v_in (tb' := t_X4_startIn) (rk' := 1) rfl rfl rfl ?_
  refine v_go rfl ?_
  refine v_bF rfl (nI_m9 (by omega)) ?_
  refine v_go rfl ?_
  refine v_ca rfl ?_
  refine c_isCrier hr1.2.1 (by omega) (fun _ => ?_) (fun z => absurd hx z)
  refine v_go rfl ?_
  refine v_bT rfl (by decide) ?_
  refine v_go rfl ?_
  refine v_ca rfl ?_
  refine c_beginBy hr ho1 (by rw [e1]; exact hn) hb (fun D2 hf2 hr2 => ?_)
  rw [eb] at hr2
  have r13 : D2 13 c = nI (p_dig S b c) := (hr2.2.2.2.1 c hc).2.2
  refine v_go rfl ?_
  refine v_sd rfl hin ?_
  rw [hcl, r13]
  exact v_rt rfl trivial (h D2 hf2)
/-- a shower in the trial that is this one but for who begins where -/
def trB (S : SH) (D : m_D) : Prop := ∃ S1, relC 8 D S1 ∧ okS S1 ∧ S1.1 = S.1 ∧ S1.2.1 = S.2.1 ∧ ∀ b, begS S1 b = begS S b
theorem trB_0 {S : SH} {D : m_D} (h : relC 8 D S) (ho : okS S) : trB S D := ⟨S, h, ho, rfl, rfl, fun _ => rfl⟩
theorem trB_b {S : SH} {D : m_D} {b : Nat} (h : relC 8 D (begS S b)) (ho : okS S) (hn : S.1 ≠ 0) : trB S D := ⟨begS S b, h, okS_beg ho hn, rfl, rfl, fun a => begS_begS S b a⟩
theorem trB_keep {S : SH} {D D' : m_D} (h : trB S D) (hf : ∀ i, i < 7 → D' (8 + i) = D (8 + i)) : trB S D' := by
  obtain ⟨S1, h1, h2⟩ := h
  exact ⟨S1, relC_c hf h1, h2⟩
theorem c_beginT {L d b : Nat} {S : SH} {D : m_D} {Q : m_K} (ht : trB S D) (hn : S.1 ≠ 0) (hb : b < 1000) (h : ∀ D', m_fr [13] D D' → relC 8 D' (begS S b) → Q none D') : m_call L (d + 1) 20 [.ref 8, .int (nI b)] D Q := by
  obtain ⟨S1, hr, ho1, e1, e2, eb⟩ := ht
  refine c_beginBy hr ho1 (by rw [e1]; exact hn) hb (fun D2 hf2 hr2 => ?_)
  rw [eb] at hr2
  exact h D2 hf2 hr2
/-- the same in the reference -/
def trM (S : SH) (D : m_D) : Prop := ∃ S1, relM D S1 ∧ okS S1 ∧ S1.1 = S.1 ∧ S1.2.1 = S.2.1 ∧ (∀ b, begS S1 b = begS S b) ∧ ∀ i c, i = 1 ∨ i = 2 ∨ i = 3 → S1.2.2.1 i c = S.2.2.1 i c
theorem trM_0 {S : SH} {D : m_D} (h : relM D S) (ho : okS S) : trM S D := ⟨S, h, ho, rfl, rfl, fun _ => rfl, fun _ _ _ => rfl⟩
theorem trM_b {S : SH} {D : m_D} {b : Nat} (h : relM D (begS S b)) (ho : okS S) (hn : S.1 ≠ 0) : trM S D := ⟨begS S b, h, okS_beg ho hn, rfl, rfl, fun a => begS_begS S b a, fun i c hi => if_neg (by omega)⟩
theorem c_beginM {L d b : Nat} {S : SH} {D : m_D} {Q : m_K} (ht : trM S D) (hn : S.1 ≠ 0) (hb : b < 1000) (h : ∀ D', m_fM [39] [] D D' → relM D' (begS S b) → Q none D') : m_call L (d + 1) 133 [.ref 34, .int (nI b)] D Q := by
  obtain ⟨S1, hr, ho1, e1, e2, eb, -⟩ := ht
  refine c_begins hr ho1 (by rw [e1]; exact hn) hb (fun D2 hf2 hr2 => ?_)
  rw [eb] at hr2
  exact h D2 hf2 hr2
theorem c_bringT {L d : Nat} {S : SH} {D : m_D} {Q : m_K} (ht : trM S D) (ho : okS S) (hh : relH D S) (h : ∀ D', m_fM [35, 39, 40] [] D D' → relM D' S → Q none D') : m_call L (d + 1) 130 [.ref 34] D Q := by
  obtain ⟨S1, hr, ho1, e1, e2, eb, eT⟩ := ht
  exact c_brings hr ho e1 e2 eT hh h
theorem relH_keep {Z F : List Nat} {S : SH} {D D' : m_D} (h : relH D S) (hf : m_fM Z F D D') (hz : ∀ a, a ∈ [51, 52, 53] → a ∉ Z) : relH D' S := by
  obtain ⟨h1, h2, h3⟩ := h
  have e : ∀ a, a ∈ [51, 52, 53] → D' a = D a := fun a ha => hf.1 a (hz a ha) (by
    simp only [List.mem_cons, List.not_mem_nil, or_false] at ha
    omega)
  exact ⟨fun l hl => by rw [e 51 (by simp)]; exact h1 l hl, fun c hc => by rw [e 52 (by simp)]; exact h2 c hc, fun f hf => by rw [e 53 (by simp)]; exact h3 f hf⟩
theorem trM_keep {Z F : List Nat} {S : SH} {D D' : m_D} (h : trM S D) (hf : m_fM Z F D D') (hZ : ∀ a, a ∈ [35, 36, 37, 38, 39, 40] → a ∉ Z) (hF : 1 ∉ F ∧ 2 ∉ F) : trM S D' := by
  obtain ⟨S1, h1, h2⟩ := h
  exact ⟨S1, relM_keep hf hZ hF h1, h2⟩
end
section
/-! ===== whole ===== -/
theorem or0 (x : Int32) : x ||| 0 = x := Int32.or_zero
theorem c_hang {L d : Nat} {S : SH} {D : m_D} {Q : m_K} (r1 : D 34 1 = nI S.1) (hn6 : S.1 ≤ 6) (hF : ∀ i, i < S.1 → D 46 i = oI (p_hour S i)) (h : Q (some (.int (p_hang S S.1))) D) : m_call L (d + 1) 115 [.ref 34] D Q := by
  have key : ∀ (m l : Nat), l + m = S.1 → m_V L d Q t_X5_thoseThatHang 1 (4, [some (.ref 34), some (.int (p_hang S l)), some (.int (nI l))], [], D) := by
    intro m
    induction m with
    | zero =>
      intro l hm
      have hm : l = S.1 := by omega
      subst hm
      refine v_go rfl ?_
      rw [r1]
      refine v_bT rfl (Int32.le_refl _) ?_
      exact v_go rfl (v_rt rfl trivial h)
    | succ m ih =>
      intro l hm
      have hin : vp_in (nI l) 6 := vp_in_nI (by omega) (by omega)
      have hcl : (nI l).toNatClampNeg = l := nI_clamp (by omega)
      have hle : ∀ q, p_hour S l = some q → q ≤ l := (p_fr_ok S l S.2.1).1
      have ih := ih (l + 1) (by omega)
      rw [← nI_1] at ih
      have e : p_hang S (l + 1) = if p_hour S l = none then p_hang S l ||| (1 <<< (nI l &&& 31)) else p_hang S l := rfl
      rw [e] at ih
      refine v_go rfl ?_
      rw [r1]
      refine v_bF rfl (nI_ge (by omega) (by omega)) ?_
      refine v_go rfl ?_
      refine v_sd rfl hin ?_
      rw [hcl, hF l (by omega)]
      cases hh : p_hour S l with
      | none =>
        rw [if_pos hh] at ih
        refine v_bF rfl (by decide) ?_
        exact v_run 8 rfl ih
      | some t =>
        have ht := hle t hh
        rw [if_neg (by rw [hh]; exact fun z => by cases z), ← or0 (p_hang S l)] at ih
        refine v_bT rfl (nI_pos' (by omega)) ?_
        exact v_run 5 rfl ih
  refine v_in (tb' := t_X5_thoseThatHang) (rk' := 1) rfl rfl rfl ?_
  exact v_run 4 rfl (key S.1 0 (by omega))
theorem c_mud {L d : Nat} {S : SH} {D : m_D} {Q : m_K} (r1 : D 34 1 = nI S.1) (hn6 : S.1 ≤ 6) (hk3 : S.2.1 ≤ 3) (hF : ∀ i, i < S.1 → D 46 i = oI (p_hour S i) ∧ D 47 i = oI (p_by S i)) (h : Q (some (.int (p_mud S S.1))) D) : m_call L (d + 1) 116 [.ref 34] D Q := by
  have key : ∀ (m l : Nat), l + m = S.1 → m_V L d Q t_X5_thoseOfMud 1 (4, [some (.ref 34), some (.int (p_mud S l)), some (.int (nI l))], [], D) := by
    intro m
    induction m with
    | zero =>
      intro l hm
      have hm : l = S.1 := by omega
      subst hm
      refine v_go rfl ?_
      rw [r1]
      refine v_bT rfl (Int32.le_refl _) ?_
      exact v_go rfl (v_rt rfl trivial h)
    | succ m ih =>
      intro l hm
      have hin : vp_in (nI l) 6 := vp_in_nI (by omega) (by omega)
      have hcl : (nI l).toNatClampNeg = l := nI_clamp (by omega)
      obtain ⟨q1, q2⟩ := p_fr_ok S l S.2.1
      have ih := ih (l + 1) (by omega)
      rw [← nI_1] at ih
      have e : p_mud S (l + 1) = if ¬ p_hour S l = none ∧ p_by S l = none then p_mud S l ||| (1 <<< (nI l &&& 31)) else p_mud S l := rfl
      rw [e] at ih
      obtain ⟨f1, f2⟩ := hF l (by omega)
      refine v_go rfl ?_
      rw [r1]
      refine v_bF rfl (nI_ge (by omega) (by omega)) ?_
      refine v_go rfl ?_
      refine v_sd rfl hin ?_
      rw [hcl, f1]
      cases hh : p_hour S l with
      | none =>
        rw [if_neg (fun z => z.1 hh), ← or0 (p_mud S l)] at ih
        refine v_bT rfl (by decide) ?_
        exact v_run 5 rfl ih
      | some t =>
        have ht := q1 t hh
        refine v_bF rfl (nI_pos (by omega)) ?_
        refine v_go rfl ?_
        refine v_sd rfl hin ?_
        rw [hcl, f2]
        cases hb : p_by S l with
        | none =>
          rw [if_pos ⟨by rw [hh]; exact fun z => (by cases z), hb⟩] at ih
          refine v_bF rfl (by decide) ?_
          exact v_run 8 rfl ih
        | some c =>
          have hc := (q2 c hb).1
          rw [if_neg (fun z => by rw [hb] at z; cases z.2), ← or0 (p_mud S l)] at ih
          refine v_bT rfl (nI_pos' (by omega)) ?_
          exact v_run 5 rfl ih
  refine v_in (tb' := t_X5_thoseOfMud) (rk' := 1) rfl rfl rfl ?_
  exact v_run 4 rfl (key S.1 0 (by omega))
/-- counting, and the first, upwards and downwards -/
def p_cnt (P : Nat → Bool) : Nat → Nat
  | 0 => 0
  | n + 1 => p_cnt P n + (if P n then 1 else 0)
def p_fst (P : Nat → Bool) : Nat → Option Nat
  | 0 => none
  | n + 1 => match p_fst P n with
    | some i => some i
    | none => if P n then some n else none
def p_cntR (P : Nat → Bool) : Nat → Nat → Nat
  | _, 0 => 0
  | i, m + 1 => (if P i then 1 else 0) + p_cntR P (i + 1) m
def p_fstR (P : Nat → Bool) : Nat → Nat → Option Nat
  | _, 0 => none
  | i, m + 1 => if P i then some i else p_fstR P (i + 1) m
theorem p_cnt_R (P : Nat → Bool) : ∀ m i, p_cnt P (i + m) = p_cnt P i + p_cntR P i m
  | 0, i => rfl
  | m + 1, i => by
    have h := p_cnt_R P m (i + 1)
    rw [show i + (m + 1) = i + 1 + m by omega, h]
    show p_cnt P i + (if P i then 1 else 0) + p_cntR P (i + 1) m = p_cnt P i + ((if P i then 1 else 0) + p_cntR P (i + 1) m)
    omega
theorem p_fst_R (P : Nat → Bool) : ∀ m i, p_fst P i = none → p_fst P (i + m) = p_fstR P i m
  | 0, i, h => h
  | m + 1, i, h => by
    rw [show i + (m + 1) = i + 1 + m by omega]
    by_cases hp : P i = true
    · have e : p_fst P (i + 1) = some i := by
        show (match p_fst P i with
          | some i => some i
          | none => if P i then some i else none) = some i
        rw [h, if_pos hp]
      have keep : ∀ m, p_fst P (i + 1 + m) = some i := by
        intro m
        induction m with
        | zero => exact e
        | succ m ih =>
          show (match p_fst P (i + 1 + m) with
            | some i => some i
            | none => if P (i + 1 + m) then some (i + 1 + m) else none) = some i
          rw [ih]
      rw [keep]
      show some i = if P i then some i else _
      rw [if_pos hp]
    · have e : p_fst P (i + 1) = none := by
        show (match p_fst P i with
          | some i => some i
          | none => if P i then some i else none) = none
        rw [h, if_neg hp]
      rw [p_fst_R P m (i + 1) e]
      show _ = if P i then some i else _
      rw [if_neg hp]
theorem p_fst_lt (P : Nat → Bool) : ∀ n i, p_fst P n = some i → i < n
  | 0, i, h => by cases h
  | n + 1, i, h => by
    have h : (match p_fst P n with
      | some i => some i
      | none => if P n then some n else none) = some i := h
    cases e : p_fst P n with
    | some j =>
      rw [e] at h
      have h3 : j = i := Option.some.inj h
      have h2 := p_fst_lt P n j e
      omega
    | none =>
      rw [e] at h
      dsimp only at h
      split at h
      · cases h
        omega
      · cases h
def p_w (S : SH) (b : Nat) : Bool := decide (p_hang (begS S b) S.1 = 0 ∧ p_mud (begS S b) S.1 = 0)
/-- k: -1, or one of three -/
theorem m1_3 (x : Int32) : (¬ x < -1 ∧ x < 3) ↔ (x = -1 ∨ vp_in x 3) := by
  rw [vp_in_iff, Int32.lt_iff_toInt_lt, Int32.lt_iff_toInt_lt, ← Int32.toInt_inj]
  have e1 : (-1 : Int32).toInt = -1 := by decide
  have e3 : (3 : Int32).toInt = 3 := by decide
  rw [e1, e3]
  omega
theorem m1_3l (x : Int32) : ((-1 : Int64) ≤ x.toInt64 ∧ x.toInt64 ≤ 2) ↔ (x = -1 ∨ vp_in x 3) := by
  rw [vp_in_iff, Int64.le_iff_toInt_le, Int64.le_iff_toInt_le, Int32.toInt_toInt64, ← Int32.toInt_inj]
  have e1 : (-1 : Int64).toInt = -1 := by decide
  have e3 : (2 : Int64).toInt = 2 := by decide
  have e2 : (-1 : Int32).toInt = -1 := by decide
  rw [e1, e3, e2]
  omega
def p_st (S : SH) (x : Int32) : Option Nat → Int32
  | none => -9
  | some b => if x.toNatClampNeg < S.2.1 then nI (p_dig S b x.toNatClampNeg) else -9
def sp_whole (S : SH) (x : Int32) : Int32 := if x = -1 then nI (p_cnt (p_w S) (p_nb S)) else p_st S x (p_fst (p_w S) (p_nb S))
theorem c_trialStart {L d : Nat} {x : Int32} {S : SH} {D : m_D} {Q : m_K} (fb : Option Nat) (hr1 : relC 1 D S) (hr : trB S D) (ho : okS S) (hn : S.1 ≠ 0) (hb : ∀ b, fb = some b → b < 1000) (hx : vp_in x 3) (h : ∀ D', m_fr [13] D D' → Q (some (.int (p_st S x fb))) D') : m_call L (d + 2) 46 [.ref 0, .int (oI fb), .int x] D Q := by
  obtain ⟨c, hc, rfl⟩ := vp_in_of hx (by omega)
  have hcl : (nI c).toNatClampNeg = c := nI_clamp (by omega)
  have hk3 := ho.2.1
  match fb, hb, h with
  | none, _, h =>
    refine v_in (tb' := t_X4_startIn) (rk' := 1) rfl rfl rfl ?_
    refine v_go rfl ?_
    refine v_bT rfl rfl ?_
    exact v_go rfl (v_rt rfl trivial (h D (m_fr.refl _ _)))
  | some b, hb, h =>
    have hb := hb b rfl
    by_cases hck : c < S.2.1
    · refine c_startInC hr1 hr ho hn hb hck (fun D2 hf2 => ?_)
      have h : Q (some (.int (if (nI c).toNatClampNeg < S.2.1 then nI (p_dig S b (nI c).toNatClampNeg) else -9))) D2 := h D2 hf2
      rw [hcl, if_pos hck] at h
      exact h
    · have h : Q (some (.int (if (nI c).toNatClampNeg < S.2.1 then nI (p_dig S b (nI c).toNatClampNeg) else -9))) D := h D (m_fr.refl _ _)
      rw [hcl, if_neg hck] at h
      refine v_in (tb' := t_X4_startIn) (rk' := 1) rfl rfl rfl ?_
      refine v_go rfl ?_
      refine v_bF rfl (nI_m9 (by omega)) ?_
      refine v_go rfl ?_
      refine v_ca rfl ?_
      refine c_isCrier hr1.2.1 (by omega) (fun z => ?_) (fun _ => ?_)
      · obtain ⟨c', hc', e⟩ := vp_in_of z (by omega)
        have := (nI_eq (by omega) (by omega)).mp e
        omega
      · refine v_go rfl ?_
        refine v_bF rfl (by decide) ?_
        exact v_go rfl (v_rt rfl trivial h)
theorem relC_FT {S : SH} {D D' : m_D} (hf : m_fr z_FT D D') (h : relC 1 D S) : relC 1 D' S := relC_c (fun i hi => hf _ (by
  simp only [z_FT, List.mem_cons, List.not_mem_nil, or_false]
  omega)) h
theorem trB_F {S : SH} {b : Nat} {D D' : m_D} (hf : m_fr z_F D D') (h : relC 8 D (begS S b)) (ho : okS S) (hn : S.1 ≠ 0) : trB S D' := trB_b (relC_c (fun i hi => hf _ (z_F_B (Or.inr rfl) i hi)) h) ho hn
theorem x_whole {L : Nat} {x : Int32} {S : SH} {D : m_D} {Q : m_K} (hr : relC 1 D S) (ho : okS S) (hx : x = -1 ∨ vp_in x 3) (hn : S.1 ≠ 0) (h : ∀ D', m_fr z_FT D D' → Q (some (.int (sp_whole S x))) D') : m_call L 8 44 [.ref 0, .int x] D Q := by
  have hn6 := ho.1
  have hnb := p_nb_lt ho
  have hx2 := (m1_3 x).mpr hx
  have fin : ∀ (D1 : m_D), m_fr z_FT D D1 → trB S D1 → m_V L 7 Q t_X4_whole 1 (122, [some (.ref 0), some (.int x), some (.int (nI (p_nb S))), some (.int (nI (p_cnt (p_w S) (p_nb S)))), some (.int (oI (p_fst (p_w S) (p_nb S)))), some (.int (nI (p_nb S)))], [], D1) := by
    intro D1 hf ht
    refine v_go rfl ?_
    by_cases e : x = -1
    · refine v_bF rfl (fun z => z e) ?_
      have h := h D1 hf
      unfold sp_whole at h
      rw [if_pos e] at h
      exact v_go rfl (v_rt rfl trivial h)
    · refine v_bT rfl e ?_
      refine v_go rfl ?_
      refine v_ca rfl ?_
      refine c_trialStart _ (relC_FT hf hr) ht ho hn (fun b hb => by have := p_fst_lt _ _ _ hb; omega) (hx.resolve_left e) (fun D2 hf2 => ?_)
      have h := h D2 (hf.trans (hf2.sub (by simp)))
      unfold sp_whole at h
      rw [if_neg e] at h
      exact v_rt rfl trivial h
  have key : ∀ (m b : Nat) (D1 : m_D), b + m = p_nb S → m_fr z_FT D D1 → trB S D1 → m_V L 7 Q t_X4_whole 1 (51, [some (.ref 0), some (.int x), some (.int (nI (p_nb S))), some (.int (nI (p_cnt (p_w S) b))), some (.int (oI (p_fst (p_w S) b))), some (.int (nI b))], [], D1) := by
    intro m
    induction m with
    | zero =>
      intro b D1 hm hf ht
      have hm : b = p_nb S := by omega
      subst hm
      refine v_go rfl ?_
      refine v_bT rfl (Int32.le_refl _) ?_
      exact fin D1 hf ht
    | succ m ih =>
      intro b D1 hm hf ht
      refine v_go rfl ?_
      refine v_bF rfl (nI_ge (by omega) (by omega)) ?_
      refine v_go rfl ?_
      refine v_ca rfl ?_
      refine c_beginT ht hn (by omega) (fun D2 hf2 hr2 => ?_)
      refine v_go rfl ?_
      refine v_ca rfl ?_
      refine c_workOut (Or.inr rfl) hr2 (okS_beg ho hn) (fun D3 hf3 hF => ?_)
      have ih := ih (b + 1) D3 (by omega) ((hf.trans (hf2.sub (by simp))).trans (fF hf3)) (trB_F hf3 hr2 ho hn)
      rw [← nI_1] at ih
      have e5 : D3 15 5 = p_hang (begS S b) S.1 := hF.2.2.2.1
      have e6 : D3 15 6 = p_mud (begS S b) S.1 := hF.2.2.2.2.1
      have ec : p_cnt (p_w S) (b + 1) = p_cnt (p_w S) b + (if p_w S b then 1 else 0) := rfl
      have ef : p_fst (p_w S) (b + 1) = match p_fst (p_w S) b with
        | some i => some i
        | none => if p_w S b then some b else none := rfl
      rw [ec, ef] at ih
      have ew : p_w S b = decide (p_hang (begS S b) S.1 = 0 ∧ p_mud (begS S b) S.1 = 0) := rfl
      refine v_go rfl ?_
      rw [e5]
      by_cases g1 : p_hang (begS S b) S.1 = 0
      · refine v_bF rfl (fun z => z g1) ?_
        refine v_go rfl ?_
        rw [e6]
        by_cases g2 : p_mud (begS S b) S.1 = 0
        · have ew : p_w S b = true := by rw [ew]; exact decide_eq_true ⟨g1, g2⟩
          refine v_bF rfl (fun z => z g2) ?_
          refine v_go rfl ?_
          rw [ew, if_pos rfl, ← nI_1] at ih
          cases hq : p_fst (p_w S) b with
          | none =>
            rw [hq] at ih
            dsimp only at ih
            rw [if_pos rfl] at ih
            refine v_bF rfl (fun z => z rfl) ?_
            exact v_run 5 rfl ih
          | some i =>
            have hi := p_fst_lt _ _ _ hq
            rw [hq] at ih
            refine v_bT rfl (nI_m9 (by omega)) ?_
            exact v_run 4 rfl ih
        · have ew : p_w S b = false := by rw [ew]; exact decide_eq_false (fun z => g2 z.2)
          refine v_bT rfl g2 ?_
          rw [ew, if_neg (by decide), if_neg (by decide)] at ih
          have ih2 : m_V L 7 Q t_X4_whole 1 (51, [some (.ref 0), some (.int x), some (.int (nI (p_nb S))), some (.int (nI (p_cnt (p_w S) b))), some (.int (oI (p_fst (p_w S) b))), some (.int (nI b + 1))], [], D3) := by
            cases hq : p_fst (p_w S) b with
            | none =>
              rw [hq] at ih
              exact ih
            | some i =>
              rw [hq] at ih
              exact ih
          exact v_run 2 rfl ih2
      · have ew : p_w S b = false := by rw [ew]; exact decide_eq_false (fun z => g1 z.1)
        refine v_bT rfl g1 ?_
        rw [ew, if_neg (by decide), if_neg (by decide)] at ih
        have ih2 : m_V L 7 Q t_X4_whole 1 (51, [some (.ref 0), some (.int x), some (.int (nI (p_nb S))), some (.int (nI (p_cnt (p_w S) b))), some (.int (oI (p_fst (p_w S) b))), some (.int (nI b + 1))], [], D3) := by
          cases hq : p_fst (p_w S) b with
          | none =>
            rw [hq] at ih
            exact ih
          | some i =>
            rw [hq] at ih
            exact ih
        exact v_run 2 rfl ih2
  refine v_in (tb' := t_X4_whole) (rk' := 1) rfl rfl rfl ?_
  refine v_go rfl ?_
  refine v_bF rfl hx2.1 ?_
  refine v_go rfl ?_
  refine v_bT rfl hx2.2 ?_
  refine v_go rfl ?_
  refine v_ca rfl ?_
  refine c_hasShower hr.1 hn6 (fun _ => ?_) (fun z => absurd z hn)
  refine v_go rfl ?_
  refine v_bT rfl (by decide) ?_
  refine v_go rfl ?_
  refine v_ca rfl ?_
  refine c_become hr ho (fun D1 hf1 hr1 => ?_)
  refine v_go rfl ?_
  refine v_ca rfl ?_
  refine c_beginnings (relC_FT (fT hf1) hr) ho ?_
  exact v_run 7 rfl (key (p_nb S) 0 D1 (by omega) (fT hf1) (trB_0 hr1 ho))
end
section
/-! ===== whole, the reference's side ===== -/
abbrev z_MT : List Nat := [35, 39, 40, 46, 47, 48, 49, 50, 51, 52, 53]
theorem InvM_MT {Z : ZS} {D D' : m_D} (h : InvM Z D) (hr : relM D' Z.1) (hf : m_fM z_MT [22] D D') : InvM Z D' := by
  obtain ⟨S, rd, sh, tr, fl⟩ := Z
  exact InvM_S h hr (fun a ha => hf.1 a (by
    simp only [z_MT, List.mem_cons, List.not_mem_nil, or_false]
    omega) (by omega)) (fun j hj => hf.2 j (by
    simp only [List.mem_cons, List.not_mem_nil, or_false] at hj ⊢
    omega))
theorem frM_MT {D D' : m_D} (hf : m_fM z_MT [22] D D') : frM D D' := frM.of hf (by decide)
theorem mtR {D D' : m_D} (hf : m_fM z_R [22] D D') : m_fM z_MT [22] D D' := hf.sub (by simp) (by simp)
theorem mtB {D D' : m_D} (hf : m_fM [39] [] D D') : m_fM z_MT [22] D D' := hf.sub (by simp) (by simp)
theorem mtK {D D' : m_D} (hf : m_fM [51, 52, 53] [] D D') : m_fM z_MT [22] D D' := hf.sub (by simp) (by simp)
theorem mtV {D D' : m_D} (hf : m_fM [35, 39, 40] [] D D') : m_fM z_MT [22] D D' := hf.sub (by simp) (by simp)
theorem y_whole {L : Nat} {x : Int32} {S : SH} {D : m_D} {Q : m_K} (hr : relM D S) (ho : okS S) (hx : x = -1 ∨ vp_in x 3) (hn : S.1 ≠ 0) (hk : S.2.1 ≠ 0) (h : ∀ D', m_fM z_MT [22] D D' → relM D' S → Q (some (.int (sp_whole S x))) D') : m_call L 8 135 [.ref 34, .int x] D Q := by
  have hn6 := ho.1
  have hk3 := ho.2.1
  have hnb := p_nb_lt ho
  have hx2 := (m1_3l x).mpr hx
  have r2 : D 34 2 = nI S.2.1 := hr.2.1
  have fin : ∀ (z w : Option Value) (D1 : m_D), m_fM z_MT [22] D D1 → trM S D1 → relH D1 S → m_V L 7 Q t_X5_whole 1 (111, [some (.ref 34), some (.int x), some (.int (nI (p_cnt (p_w S) (p_nb S)))), some (.int (oI (p_fst (p_w S) (p_nb S)))), z, w], [], D1) := by
    intro z w D1 hf ht hh
    refine v_go rfl ?_
    refine v_ca rfl ?_
    refine c_bringT ht ho hh (fun D2 hf2 hr2 => ?_)
    have h := h D2 (hf.trans (mtV hf2)) hr2
    unfold sp_whole at h
    refine v_go rfl ?_
    by_cases e : x = -1
    · rw [if_pos e] at h
      refine v_bF rfl (by rw [e]; decide) ?_
      exact v_go rfl (v_rt rfl trivial h)
    · rw [if_neg e] at h
      have hv := hx.resolve_left e
      obtain ⟨c, hc, rfl⟩ := vp_in_of hv (by omega)
      have hcl : (nI c).toNatClampNeg = c := nI_clamp (by omega)
      refine v_bT rfl (nI_pos' (by omega)) ?_
      refine v_go rfl ?_
      cases hq : p_fst (p_w S) (p_nb S) with
      | none =>
        rw [hq] at h
        refine v_bT rfl (by decide) ?_
        exact v_go rfl (v_rt rfl trivial h)
      | some b =>
        rw [hq] at h
        have hb := p_fst_lt _ _ _ hq
        have h : Q (some (.int (if (nI c).toNatClampNeg < S.2.1 then nI (p_dig S b (nI c).toNatClampNeg) else -9))) D2 := h
        rw [hcl] at h
        refine v_bF rfl (nI_pos (by omega)) ?_
        refine v_go rfl ?_
        refine v_ca rfl ?_
        refine c_noCrier hr2.2.1 (by omega) (fun zc => ?_) (fun zc => ?_)
        · have hc2 : c < S.2.1 := by
            obtain ⟨c', hc', e'⟩ := vp_in_of zc (by omega)
            have := (nI_eq (by omega) (by omega)).mp e'
            omega
          rw [if_pos hc2] at h
          refine v_go rfl ?_
          refine v_bT rfl rfl ?_
          refine v_go rfl ?_
          refine v_ca rfl ?_
          refine c_startInM hr2 ho hn (by omega) hc2 ?_
          exact v_rt rfl trivial h
        · rw [if_neg (fun z2 => zc (vp_in_nI z2 (by omega)))] at h
          refine v_go rfl ?_
          refine v_bF rfl (by decide) ?_
          exact v_go rfl (v_rt rfl trivial h)
  have key : ∀ (i m : Nat) (w : Option Value) (D1 : m_D), i + m = p_nb S → m_fM z_MT [22] D D1 → trM S D1 → relH D1 S → m_V L 7 Q t_X5_whole 1 (44, [some (.ref 34), some (.int x), some (.int (nI (p_cntR (p_w S) i m))), some (.int (oI (p_fstR (p_w S) i m))), some (.int (nI i - 1)), w], [], D1) := by
    intro i
    induction i with
    | zero =>
      intro m w D1 hm hf ht hh
      have hm : m = p_nb S := by omega
      subst hm
      have e1 := p_cnt_R (p_w S) (p_nb S) 0
      have e2 := p_fst_R (p_w S) (p_nb S) 0 rfl
      rw [Nat.zero_add] at e1 e2
      have e1 : p_cnt (p_w S) (p_nb S) = p_cntR (p_w S) 0 (p_nb S) := by
        rw [e1]
        exact Nat.zero_add _
      rw [← e1, ← e2]
      refine v_go rfl ?_
      refine v_bT rfl (by decide) ?_
      exact fin _ _ D1 hf ht hh
    | succ i ih =>
      intro m w D1 hm hf ht hh
      rw [nI_pred]
      refine v_go rfl ?_
      refine v_bF rfl (nI_pos (by omega)) ?_
      refine v_go rfl ?_
      refine v_ca rfl ?_
      refine c_beginM ht hn (by omega) (fun D2 hf2 hr2 => ?_)
      refine v_go rfl ?_
      refine v_ca rfl ?_
      refine c_rains hr2 (okS_beg ho hn) (fun D3 hf3 hF => ?_)
      have hr3 := relM_keep hf3 (by decide) (by decide) hr2
      have hh3 : relH D3 S := relH_keep (relH_keep hh hf2 (by decide)) hf3 (by decide)
      have ih := fun w => ih (m + 1) w D3 (by omega) ((hf.trans (mtB hf2)).trans (mtR hf3)) (trM_b hr3 ho hn) hh3
      rw [← nI_m1] at ih
      have ec : p_cntR (p_w S) i (m + 1) = (if p_w S i then 1 else 0) + p_cntR (p_w S) (i + 1) m := rfl
      have ef : p_fstR (p_w S) i (m + 1) = if p_w S i then some i else p_fstR (p_w S) (i + 1) m := rfl
      rw [ec, ef, Nat.add_comm] at ih
      have ew : p_w S i = decide (p_hang (begS S i) S.1 = 0 ∧ p_mud (begS S i) S.1 = 0) := rfl
      refine v_go rfl ?_
      refine v_ca rfl ?_
      refine c_hang (S := begS S i) hr3.1 hn6 (fun l hl => (hF.1 l hl).1) ?_
      have no : p_w S i = false → m_V L 7 Q t_X5_whole 1 (77, [some (.ref 34), some (.int x), some (.int (nI (p_cntR (p_w S) (i + 1) m))), some (.int (oI (p_fstR (p_w S) (i + 1) m))), some (.int (nI i)), w], [], D3) := by
        intro ew
        have a0 : nI (p_cntR (p_w S) (i + 1) m + 0) = nI (p_cntR (p_w S) (i + 1) m) + 0 := (Int32.add_zero _).symm
        rw [ew, if_neg (by decide), if_neg (by decide), a0] at ih
        refine v_go rfl ?_
        refine v_bT rfl rfl ?_
        refine v_go rfl ?_
        refine v_bT rfl rfl ?_
        exact v_run 4 rfl (ih _)
      refine v_go rfl ?_
      by_cases g1 : p_hang (begS S i) S.1 = 0
      · refine v_bF rfl (fun z => z g1) ?_
        refine v_go rfl ?_
        refine v_ca rfl ?_
        refine c_mud (S := begS S i) hr3.1 hn6 hk3 (fun l hl => ⟨(hF.1 l hl).1, (hF.1 l hl).2.1⟩) ?_
        refine v_go rfl ?_
        by_cases g2 : p_mud (begS S i) S.1 = 0
        · have ew : p_w S i = true := by rw [ew]; exact decide_eq_true ⟨g1, g2⟩
          refine v_bF rfl (fun z => z g2) ?_
          rw [ew, if_pos rfl, if_pos rfl, ← nI_1] at ih
          refine v_go rfl ?_
          refine v_bF rfl (by decide) ?_
          refine v_go rfl ?_
          refine v_bF rfl (by decide) ?_
          exact v_run 5 rfl (ih _)
        · refine v_bT rfl g2 ?_
          exact no (by rw [ew]; exact decide_eq_false (fun z => g2 z.2))
      · refine v_bT rfl g1 ?_
        exact no (by rw [ew]; exact decide_eq_false (fun z => g1 z.1))
  refine v_in (tb' := t_X5_whole) (rk' := 1) rfl rfl rfl ?_
  refine v_go rfl ?_
  refine v_ca rfl ?_
  refine c_in (fun _ _ => ?_) (fun z => absurd hx2 z)
  refine v_go rfl ?_
  refine v_bT rfl (by decide) ?_
  refine v_go rfl ?_
  rw [r2]
  refine v_bT rfl (nI_ne0 (by omega) (by omega)) ?_
  refine v_go rfl ?_
  refine v_ca rfl ?_
  refine c_keeps hr ho (fun D1 hf1 hh1 => ?_)
  have hr1 := relM_keep hf1 (by decide) (by decide) hr
  refine v_go rfl ?_
  refine v_ca rfl ?_
  refine c_beginningsM hr1 ho ?_
  exact v_run 3 rfl (key (p_nb S) 0 none D1 (by omega) (mtK hf1) (trM_0 hr1 ho) hh1)
theorem s_whole (x : Int32) : StepI 44 135 [.int x] := by
  intro L Z hz
  obtain ⟨S, rd, sh, tr, fl⟩ := Z
  have hoS : okS S := hz.1
  have hn6 : S.1 ≤ 6 := hoS.1
  have hnk : S.1 = 0 ↔ S.2.1 = 0 := hz.2.1
  have hk3 : S.2.1 ≤ 3 := hoS.2.1
  by_cases hx : x = -1 ∨ vp_in x 3
  · by_cases hn : S.1 = 0
    · have hk : S.2.1 = 0 := hnk.mp hn
      have hx1 := (m1_3 x).mpr hx
      have hx2 := (m1_3l x).mpr hx
      refine ⟨-3, (S, rd, sh, tr, fl), hz, fun D Q hI h => ?_, fun D Q hI h => ?_⟩
      · refine v_in (tb' := t_X4_whole) (rk' := 1) rfl rfl rfl ?_
        refine v_go rfl ?_
        refine v_bF rfl hx1.1 ?_
        refine v_go rfl ?_
        refine v_bT rfl hx1.2 ?_
        refine v_go rfl ?_
        refine v_ca rfl ?_
        refine c_hasShower hI.1.1 hn6 (fun z => absurd hn z) (fun _ => ?_)
        refine v_go rfl ?_
        refine v_bF rfl (by decide) ?_
        exact v_go rfl (v_rt rfl trivial (h _ (frC.refl _) hI))
      · have r2 : D 34 2 = nI 0 := by rw [← hk]; exact hI.1.2.1
        refine v_in (tb' := t_X5_whole) (rk' := 1) rfl rfl rfl ?_
        refine v_go rfl ?_
        refine v_ca rfl ?_
        refine c_in (fun _ _ => ?_) (fun z => absurd hx2 z)
        refine v_go rfl ?_
        refine v_bT rfl (by decide) ?_
        refine v_go rfl ?_
        rw [r2]
        refine v_bF rfl (fun z => z rfl) ?_
        exact v_go rfl (v_rt rfl trivial (h _ (frM.refl _) hI))
    · have hk : S.2.1 ≠ 0 := fun z => hn (hnk.mpr z)
      refine ⟨sp_whole S x, (S, rd, sh, tr, fl), hz, fun D Q hI h => ?_, fun D Q hI h => ?_⟩
      · exact x_whole hI.1 hoS hx hn (fun D' hf => h D' (frC_FT hf) (InvC_FT hI hf))
      · exact y_whole hI.1 hoS hx hn hk (fun D' hf hr => h D' (frM_MT hf) (InvM_MT hI hr hf))
  · refine ⟨-2, (S, rd, sh, tr, fl), hz, fun D Q hI h => ?_, fun D Q hI h => ?_⟩
    · refine v_in (tb' := t_X4_whole) (rk' := 1) rfl rfl rfl ?_
      refine v_go rfl ?_
      refine v_br rfl (fun z => ?_) (fun z => ?_)
      · exact v_go rfl (v_rt rfl trivial (h _ (frC.refl _) hI))
      · refine v_go rfl ?_
        refine v_bF rfl (fun z2 => hx ((m1_3 x).mp ⟨z, z2⟩)) ?_
        exact v_go rfl (v_rt rfl trivial (h _ (frC.refl _) hI))
    · refine v_in (tb' := t_X5_whole) (rk' := 1) rfl rfl rfl ?_
      refine v_go rfl ?_
      refine v_ca rfl ?_
      refine c_in (fun z1 z2 => absurd ((m1_3l x).mp ⟨z1, z2⟩) hx) (fun _ => ?_)
      refine v_go rfl ?_
      refine v_bF rfl (by decide) ?_
      exact v_go rfl (v_rt rfl trivial (h _ (frM.refl _) hI))
end
section
/-! ===== how wet at most; most ===== -/
theorem p_give_le {kd dr : Nat} (h : dr ≤ 9) : p_give kd dr ≤ 17 := by
  unfold p_give
  split
  · omega
  · omega
  · omega
theorem p_amt_le {S : SH} (ho : okS S) {l : Nat} (hl : l < S.1) : p_amt S l ≤ 17 := by
  unfold p_amt
  split
  · omega
  · exact p_give_le (ho.2.2.1 l hl).1
theorem p_wet_le {S : SH} (ho : okS S) (f : Nat) : ∀ l, l ≤ S.1 → p_wet S f l ≤ 17 * l
  | 0, _ => Nat.le_refl _
  | l + 1, h => by
    have h1 := p_wet_le ho f l (by omega)
    have h2 := p_amt_le ho (l := l) (by omega)
    have e : p_wet S f (l + 1) = p_wet S f l + (if p_dst S l = some f then p_amt S l else 0) := rfl
    rw [e]
    split <;> omega
theorem p_wet_102 {S : SH} (ho : okS S) (f : Nat) : p_wet S f S.1 ≤ 102 := by
  have h := p_wet_le ho f S.1 (Nat.le_refl _)
  have := ho.1
  omega
theorem p_all_le {S : SH} (ho : okS S) : p_all S ≤ 408 := by
  have h0 := p_wet_102 ho 0
  have h1 := p_wet_102 ho 1
  have h2 := p_wet_102 ho 2
  have h3 := p_wet_102 ho 3
  unfold p_all
  omega
def p_mx (w : Nat → Nat) : Nat → Option (Nat × Nat)
  | 0 => none
  | n + 1 => match p_mx w n with
    | none => some (w n, n)
    | some (g, b) => if g < w n then some (w n, n) else some (g, b)
def mxI : Option (Nat × Nat) → Int32
  | none => -1
  | some (g, _) => nI g
def mxF : Option (Nat × Nat) → Option Nat
  | none => none
  | some (_, b) => some b
theorem p_mx_ok (w : Nat → Nat) {B : Nat} (hw : ∀ i, w i ≤ B) : ∀ n g b, p_mx w n = some (g, b) → g ≤ B ∧ b < n
  | 0, g, b, h => by cases h
  | n + 1, g, b, h => by
    have h : (match p_mx w n with
      | none => some (w n, n)
      | some (g, b) => if g < w n then some (w n, n) else some (g, b)) = some (g, b) := h
    cases e : p_mx w n with
    | none =>
      rw [e] at h
      cases h
      exact ⟨hw _, by omega⟩
    | some q =>
      obtain ⟨g', b'⟩ := q
      rw [e] at h
      have h1 := p_mx_ok w hw n g' b' e
      dsimp only at h
      split at h
      · cases h
        exact ⟨hw _, by omega⟩
      · cases h
        exact ⟨h1.1, by omega⟩
theorem p_mx_some (w : Nat → Nat) : ∀ n, n ≠ 0 → ∃ g b, p_mx w n = some (g, b)
  | 0, h => absurd rfl h
  | n + 1, _ => by
    have h : p_mx w (n + 1) = (match p_mx w n with
      | none => some (w n, n)
      | some (g, b) => if g < w n then some (w n, n) else some (g, b)) := rfl
    rw [h]
    cases e : p_mx w n with
    | none => exact ⟨_, _, rfl⟩
    | some q =>
      obtain ⟨g', b'⟩ := q
      dsimp only
      split
      · exact ⟨_, _, rfl⟩
      · exact ⟨_, _, rfl⟩
theorem mx_step (w : Nat → Nat) {n : Nat} (hw : ∀ i, w i ≤ 408) : (¬ nI (w n) ≤ mxI (p_mx w n) ∧ p_mx w (n + 1) = some (w n, n)) ∨ (nI (w n) ≤ mxI (p_mx w n) ∧ p_mx w (n + 1) = p_mx w n) := by
  have h : p_mx w (n + 1) = (match p_mx w n with
    | none => some (w n, n)
    | some (g, b) => if g < w n then some (w n, n) else some (g, b)) := rfl
  have hn := hw n
  rw [h]
  cases e : p_mx w n with
  | none =>
    refine Or.inl ⟨?_, rfl⟩
    show ¬ nI (w n) ≤ -1
    rw [Int32.le_iff_toInt_le, nI_toInt (by omega)]
    have e1 : (-1 : Int32).toInt = -1 := by decide
    rw [e1]
    omega
  | some q =>
    obtain ⟨g', b'⟩ := q
    have h1 := p_mx_ok w hw n g' b' e
    dsimp only
    by_cases hg : g' < w n
    · rw [if_pos hg]
      exact Or.inl ⟨nI_ge hg (by omega), rfl⟩
    · rw [if_neg hg]
      exact Or.inr ⟨nI_le (by omega) (by omega), rfl⟩
def p_aw (S : SH) (b : Nat) : Nat := p_all (begS S b)
theorem p_aw_le {S : SH} (ho : okS S) (hn : S.1 ≠ 0) (b : Nat) : p_aw S b ≤ 408 := p_all_le (okS_beg ho hn)
theorem p_nb_0 {S : SH} (hn : S.1 ≠ 0) : p_nb S ≠ 0 := by
  have := Nat.pow_pos (n := S.2.1) (show 0 < S.1 by omega)
  unfold p_nb
  omega
def sp_most (S : SH) (x : Int32) : Int32 := if x = -1 then mxI (p_mx (p_aw S) (p_nb S)) else p_st S x (mxF (p_mx (p_aw S) (p_nb S)))
theorem x_most {L : Nat} {x : Int32} {S : SH} {D : m_D} {Q : m_K} (hr : relC 1 D S) (ho : okS S) (hx : x = -1 ∨ vp_in x 3) (hn : S.1 ≠ 0) (h : ∀ D', m_fr z_FT D D' → Q (some (.int (sp_most S x))) D') : m_call L 8 45 [.ref 0, .int x] D Q := by
  have hn6 := ho.1
  have hnb := p_nb_lt ho
  have hx2 := (m1_3 x).mpr hx
  have fin : ∀ (D1 : m_D), m_fr z_FT D D1 → trB S D1 → m_V L 7 Q t_X4_most 1 (106, [some (.ref 0), some (.int x), some (.int (nI (p_nb S))), some (.int (mxI (p_mx (p_aw S) (p_nb S)))), some (.int (oI (mxF (p_mx (p_aw S) (p_nb S))))), some (.int (nI (p_nb S)))], [], D1) := by
    intro D1 hf ht
    refine v_go rfl ?_
    by_cases e : x = -1
    · refine v_bF rfl (fun z => z e) ?_
      have h := h D1 hf
      unfold sp_most at h
      rw [if_pos e] at h
      exact v_go rfl (v_rt rfl trivial h)
    · refine v_bT rfl e ?_
      refine v_go rfl ?_
      refine v_ca rfl ?_
      refine c_trialStart _ (relC_FT hf hr) ht ho hn (fun b hb => ?_) (hx.resolve_left e) (fun D2 hf2 => ?_)
      · cases hq : p_mx (p_aw S) (p_nb S) with
        | none =>
          rw [hq] at hb
          cases hb
        | some q =>
          obtain ⟨g', b'⟩ := q
          rw [hq] at hb
          cases hb
          have := (p_mx_ok (p_aw S) (p_aw_le ho hn) _ _ _ hq).2
          omega
      · have h := h D2 (hf.trans (hf2.sub (by simp)))
        unfold sp_most at h
        rw [if_neg e] at h
        exact v_rt rfl trivial h
  have key : ∀ (m b : Nat) (D1 : m_D), b + m = p_nb S → m_fr z_FT D D1 → trB S D1 → m_V L 7 Q t_X4_most 1 (51, [some (.ref 0), some (.int x), some (.int (nI (p_nb S))), some (.int (mxI (p_mx (p_aw S) b))), some (.int (oI (mxF (p_mx (p_aw S) b)))), some (.int (nI b))], [], D1) := by
    intro m
    induction m with
    | zero =>
      intro b D1 hm hf ht
      have hm : b = p_nb S := by omega
      subst hm
      refine v_go rfl ?_
      refine v_bT rfl (Int32.le_refl _) ?_
      exact fin D1 hf ht
    | succ m ih =>
      intro b D1 hm hf ht
      refine v_go rfl ?_
      refine v_bF rfl (nI_ge (by omega) (by omega)) ?_
      refine v_go rfl ?_
      refine v_ca rfl ?_
      refine c_beginT ht hn (by omega) (fun D2 hf2 hr2 => ?_)
      refine v_go rfl ?_
      refine v_ca rfl ?_
      refine c_workOut (Or.inr rfl) hr2 (okS_beg ho hn) (fun D3 hf3 hF => ?_)
      have ih := ih (b + 1) D3 (by omega) ((hf.trans (hf2.sub (by simp))).trans (fF hf3)) (trB_F hf3 hr2 ho hn)
      rw [← nI_1] at ih
      refine v_go rfl ?_
      refine v_ca rfl ?_
      refine c_wetAll (S := begS S b) hF.2.2.1 ?_
      refine v_go rfl ?_
      rcases mx_step (p_aw S) (n := b) (p_aw_le ho hn) with ⟨g1, g2⟩ | ⟨g1, g2⟩
      · rw [g2] at ih
        refine v_bF rfl g1 ?_
        refine v_go rfl ?_
        refine v_ca rfl ?_
        refine c_wetAll (S := begS S b) hF.2.2.1 ?_
        exact v_run 5 rfl ih
      · rw [g2] at ih
        refine v_bT rfl g1 ?_
        exact v_run 2 rfl ih
  refine v_in (tb' := t_X4_most) (rk' := 1) rfl rfl rfl ?_
  refine v_go rfl ?_
  refine v_bF rfl hx2.1 ?_
  refine v_go rfl ?_
  refine v_bT rfl hx2.2 ?_
  refine v_go rfl ?_
  refine v_ca rfl ?_
  refine c_hasShower hr.1 hn6 (fun _ => ?_) (fun z => absurd z hn)
  refine v_go rfl ?_
  refine v_bT rfl (by decide) ?_
  refine v_go rfl ?_
  refine v_ca rfl ?_
  refine c_become hr ho (fun D1 hf1 hr1 => ?_)
  refine v_go rfl ?_
  refine v_ca rfl ?_
  refine c_beginnings (relC_FT (fT hf1) hr) ho ?_
  exact v_run 7 rfl (key (p_nb S) 0 D1 (by omega) (fT hf1) (trB_0 hr1 ho))
theorem y_most {L : Nat} {x : Int32} {S : SH} {D : m_D} {Q : m_K} (hr : relM D S) (ho : okS S) (hx : x = -1 ∨ vp_in x 3) (hn : S.1 ≠ 0) (hk : S.2.1 ≠ 0) (h : ∀ D', m_fM z_MT [22] D D' → relM D' S → Q (some (.int (sp_most S x))) D') : m_call L 8 136 [.ref 34, .int x] D Q := by
  have hn6 := ho.1
  have hk3 := ho.2.1
  have hnb := p_nb_lt ho
  have hx2 := (m1_3l x).mpr hx
  have r2 : D 34 2 = nI S.2.1 := hr.2.1
  have fin : ∀ (z : Option Value) (D1 : m_D), m_fM z_MT [22] D D1 → trM S D1 → relH D1 S → m_V L 7 Q t_X5_most 1 (96, [some (.ref 34), some (.int x), some (.int (mxI (p_mx (p_aw S) (p_nb S)))), some (.int (oI (mxF (p_mx (p_aw S) (p_nb S))))), z], [], D1) := by
    intro z D1 hf ht hh
    refine v_go rfl ?_
    refine v_ca rfl ?_
    refine c_bringT ht ho hh (fun D2 hf2 hr2 => ?_)
    have h := h D2 (hf.trans (mtV hf2)) hr2
    unfold sp_most at h
    refine v_go rfl ?_
    by_cases e : x = -1
    · rw [if_pos e] at h
      refine v_bF rfl (by rw [e]; decide) ?_
      exact v_go rfl (v_rt rfl trivial h)
    · rw [if_neg e] at h
      have hv := hx.resolve_left e
      obtain ⟨c, hc, rfl⟩ := vp_in_of hv (by omega)
      have hcl : (nI c).toNatClampNeg = c := nI_clamp (by omega)
      obtain ⟨g, b, hq⟩ := p_mx_some (p_aw S) (p_nb S) (p_nb_0 hn)
      have hb := (p_mx_ok (p_aw S) (p_aw_le ho hn) _ _ _ hq).2
      rw [hq] at h ⊢
      have h : Q (some (.int (if (nI c).toNatClampNeg < S.2.1 then nI (p_dig S b (nI c).toNatClampNeg) else -9))) D2 := h
      rw [hcl] at h
      refine v_bT rfl (nI_pos' (by omega)) ?_
      refine v_go rfl ?_
      refine v_ca rfl ?_
      refine c_noCrier hr2.2.1 (by omega) (fun zc => ?_) (fun zc => ?_)
      · have hc2 : c < S.2.1 := by
          obtain ⟨c', hc', e'⟩ := vp_in_of zc (by omega)
          have := (nI_eq (by omega) (by omega)).mp e'
          omega
        rw [if_pos hc2] at h
        refine v_go rfl ?_
        refine v_bT rfl rfl ?_
        refine v_go rfl ?_
        refine v_ca rfl ?_
        refine c_startInM hr2 ho hn (by omega) hc2 ?_
        exact v_rt rfl trivial h
      · rw [if_neg (fun z2 => zc (vp_in_nI z2 (by omega)))] at h
        refine v_go rfl ?_
        refine v_bF rfl (by decide) ?_
        exact v_go rfl (v_rt rfl trivial h)
  have key : ∀ (m b : Nat) (D1 : m_D), b + m = p_nb S → m_fM z_MT [22] D D1 → trM S D1 → relH D1 S → m_V L 7 Q t_X5_most 1 (39, [some (.ref 34), some (.int x), some (.int (mxI (p_mx (p_aw S) b))), some (.int (oI (mxF (p_mx (p_aw S) b)))), some (.int (nI b))], [], D1) := by
    intro m
    induction m with
    | zero =>
      intro b D1 hm hf ht hh
      have hm : b = p_nb S := by omega
      subst hm
      obtain ⟨S1, hr1, ho1, e1, e2, -, -⟩ := id ht
      refine v_go rfl ?_
      refine v_ca rfl ?_
      refine c_beginningsM hr1 ho1 ?_
      refine v_go rfl ?_
      have e3 : p_nb S1 = p_nb S := by
        unfold p_nb
        rw [e1, e2]
      rw [e3]
      refine v_bT rfl (Int32.le_refl _) ?_
      exact fin _ D1 hf ht hh
    | succ m ih =>
      intro b D1 hm hf ht hh
      obtain ⟨S1, hr1, ho1, e1, e2, -, -⟩ := id ht
      refine v_go rfl ?_
      refine v_ca rfl ?_
      refine c_beginningsM hr1 ho1 ?_
      refine v_go rfl ?_
      have e3 : p_nb S1 = p_nb S := by
        unfold p_nb
        rw [e1, e2]
      rw [e3]
      refine v_bF rfl (nI_ge (by omega) (by omega)) ?_
      refine v_go rfl ?_
      refine v_ca rfl ?_
      refine c_beginM ht hn (by omega) (fun D2 hf2 hr2 => ?_)
      refine v_go rfl ?_
      refine v_ca rfl ?_
      refine c_rains hr2 (okS_beg ho hn) (fun D3 hf3 hF => ?_)
      have hr3 := relM_keep hf3 (by decide) (by decide) hr2
      have hh3 : relH D3 S := relH_keep (relH_keep hh hf2 (by decide)) hf3 (by decide)
      have ih := ih (b + 1) D3 (by omega) ((hf.trans (mtB hf2)).trans (mtR hf3)) (trM_b hr3 ho hn) hh3
      rw [← nI_1] at ih
      refine v_go rfl ?_
      refine v_ca rfl ?_
      refine c_wetAllM (S := begS S b) hF.2.2.1 ?_
      refine v_go rfl ?_
      rcases mx_step (p_aw S) (n := b) (p_aw_le ho hn) with ⟨g1, g2⟩ | ⟨g1, g2⟩
      · rw [g2] at ih
        refine v_bF rfl g1 ?_
        refine v_go rfl ?_
        refine v_ca rfl ?_
        refine c_wetAllM (S := begS S b) hF.2.2.1 ?_
        refine v_go rfl ?_
        refine v_bF rfl g1 ?_
        refine v_go rfl ?_
        refine v_ca rfl ?_
        refine c_wetAllM (S := begS S b) hF.2.2.1 ?_
        exact v_run 4 rfl ih
      · rw [g2] at ih
        refine v_bT rfl g1 ?_
        refine v_go rfl ?_
        refine v_ca rfl ?_
        refine c_wetAllM (S := begS S b) hF.2.2.1 ?_
        refine v_go rfl ?_
        refine v_bT rfl g1 ?_
        exact v_run 4 rfl ih
  refine v_in (tb' := t_X5_most) (rk' := 1) rfl rfl rfl ?_
  refine v_go rfl ?_
  refine v_ca rfl ?_
  refine c_in (fun _ _ => ?_) (fun z => absurd hx2 z)
  refine v_go rfl ?_
  refine v_bT rfl (by decide) ?_
  refine v_go rfl ?_
  rw [r2]
  refine v_bT rfl (nI_ne0 (by omega) (by omega)) ?_
  refine v_go rfl ?_
  refine v_ca rfl ?_
  refine c_keeps hr ho (fun D1 hf1 hh1 => ?_)
  have hr1 := relM_keep hf1 (by decide) (by decide) hr
  exact v_run 6 rfl (key (p_nb S) 0 D1 (by omega) (mtK hf1) (trM_0 hr1 ho) hh1)
theorem s_most (x : Int32) : StepI 45 136 [.int x] := by
  intro L Z hz
  obtain ⟨S, rd, sh, tr, fl⟩ := Z
  have hoS : okS S := hz.1
  have hn6 : S.1 ≤ 6 := hoS.1
  have hnk : S.1 = 0 ↔ S.2.1 = 0 := hz.2.1
  have hk3 : S.2.1 ≤ 3 := hoS.2.1
  by_cases hx : x = -1 ∨ vp_in x 3
  · by_cases hn : S.1 = 0
    · have hk : S.2.1 = 0 := hnk.mp hn
      have hx1 := (m1_3 x).mpr hx
      have hx2 := (m1_3l x).mpr hx
      refine ⟨-3, (S, rd, sh, tr, fl), hz, fun D Q hI h => ?_, fun D Q hI h => ?_⟩
      · refine v_in (tb' := t_X4_most) (rk' := 1) rfl rfl rfl ?_
        refine v_go rfl ?_
        refine v_bF rfl hx1.1 ?_
        refine v_go rfl ?_
        refine v_bT rfl hx1.2 ?_
        refine v_go rfl ?_
        refine v_ca rfl ?_
        refine c_hasShower hI.1.1 hn6 (fun z => absurd hn z) (fun _ => ?_)
        refine v_go rfl ?_
        refine v_bF rfl (by decide) ?_
        exact v_go rfl (v_rt rfl trivial (h _ (frC.refl _) hI))
      · have r2 : D 34 2 = nI 0 := by rw [← hk]; exact hI.1.2.1
        refine v_in (tb' := t_X5_most) (rk' := 1) rfl rfl rfl ?_
        refine v_go rfl ?_
        refine v_ca rfl ?_
        refine c_in (fun _ _ => ?_) (fun z => absurd hx2 z)
        refine v_go rfl ?_
        refine v_bT rfl (by decide) ?_
        refine v_go rfl ?_
        rw [r2]
        refine v_bF rfl (fun z => z rfl) ?_
        exact v_go rfl (v_rt rfl trivial (h _ (frM.refl _) hI))
    · have hk : S.2.1 ≠ 0 := fun z => hn (hnk.mpr z)
      refine ⟨sp_most S x, (S, rd, sh, tr, fl), hz, fun D Q hI h => ?_, fun D Q hI h => ?_⟩
      · exact x_most hI.1 hoS hx hn (fun D' hf => h D' (frC_FT hf) (InvC_FT hI hf))
      · exact y_most hI.1 hoS hx hn hk (fun D' hf hr => h D' (frM_MT hf) (InvM_MT hI hr hf))
  · refine ⟨-2, (S, rd, sh, tr, fl), hz, fun D Q hI h => ?_, fun D Q hI h => ?_⟩
    · refine v_in (tb' := t_X4_most) (rk' := 1) rfl rfl rfl ?_
      refine v_go rfl ?_
      refine v_br rfl (fun z => ?_) (fun z => ?_)
      · exact v_go rfl (v_rt rfl trivial (h _ (frC.refl _) hI))
      · refine v_go rfl ?_
        refine v_bF rfl (fun z2 => hx ((m1_3 x).mp ⟨z, z2⟩)) ?_
        exact v_go rfl (v_rt rfl trivial (h _ (frC.refl _) hI))
    · refine v_in (tb' := t_X5_most) (rk' := 1) rfl rfl rfl ?_
      refine v_go rfl ?_
      refine v_ca rfl ?_
      refine c_in (fun z1 z2 => absurd ((m1_3l x).mp ⟨z1, z2⟩) hx) (fun _ => ?_)
      refine v_go rfl ?_
      refine v_bF rfl (by decide) ?_
      exact v_go rfl (v_rt rfl trivial (h _ (frM.refl _) hI))
end
section
/-! ===== odds ===== -/
theorem c_common {L d u a : Nat} {D : m_D} {Q : m_K} (h0 : a ≠ 0) (hu : u < 2 ^ 31) (ha : a < 2 ^ 31) (h : Q (some (.int (nI (Nat.gcd u a)))) D) : m_call L (d + 1) 64 [.int (nI u), .int (nI a)] D Q := by
  have hg : 0 < Nat.gcd u a := Nat.gcd_pos_of_pos_right _ (by omega)
  have key : ∀ e, Nat.gcd u a ≤ e → e ≤ a → m_V L d Q t_X4_commonPart 1 (2, [some (.int (nI u)), some (.int (nI a)), some (.int (nI e))], [], D) := by
    intro e
    induction e with
    | zero =>
      intro h1
      omega
    | succ e ih =>
      intro h1 h2
      by_cases e0 : e = 0
      · subst e0
        have e1 : Nat.gcd u a = 1 := by omega
        rw [e1] at h
        refine v_go rfl ?_
        refine v_bT rfl (Int32.le_refl _) ?_
        exact v_go rfl (v_rt rfl trivial h)
      · have hne : ¬ nI (e + 1) = 0 := nI_ne0 (by omega) (by omega)
        have er : nI u - nI u / nI (e + 1) * nI (e + 1) = nI (u % (e + 1)) := pk_rem (by omega) (by omega) (by omega)
        have er2 : nI a - nI a / nI (e + 1) * nI (e + 1) = nI (a % (e + 1)) := pk_rem (by omega) (by omega) (by omega)
        have hm1 : u % (e + 1) < e + 1 := Nat.mod_lt _ (by omega)
        have hm2 : a % (e + 1) < e + 1 := Nat.mod_lt _ (by omega)
        have no : ¬ Nat.gcd u a = e + 1 → m_V L d Q t_X4_commonPart 1 (21, [some (.int (nI u)), some (.int (nI a)), some (.int (nI (e + 1)))], [], D) := by
          intro hne
          have ih := ih (by omega) (by omega)
          rw [← pk_m1 e] at ih
          exact v_run 2 rfl ih
        refine v_go rfl ?_
        refine v_bF rfl (nI_ge (a := 1) (by omega) (by omega)) ?_
        refine v_go rfl ?_
        refine v_sd rfl hne ?_
        rw [er]
        by_cases d1 : u % (e + 1) = 0
        · rw [d1]
          refine v_bF rfl (fun z => z rfl) ?_
          refine v_go rfl ?_
          refine v_sd rfl hne ?_
          rw [er2]
          by_cases d2 : a % (e + 1) = 0
          · rw [d2]
            refine v_bF rfl (fun z => z rfl) ?_
            have h5 : Nat.gcd u a = e + 1 := by
              have h6 : e + 1 ∣ Nat.gcd u a := Nat.dvd_gcd (Nat.dvd_of_mod_eq_zero d1) (Nat.dvd_of_mod_eq_zero d2)
              have := Nat.le_of_dvd hg h6
              omega
            rw [h5] at h
            exact v_go rfl (v_rt rfl trivial h)
          · refine v_bT rfl (nI_ne0 (by omega) (by omega)) ?_
            refine no (fun z => d2 ?_)
            have := Nat.gcd_dvd_right u a
            rw [z] at this
            exact Nat.mod_eq_zero_of_dvd this
        · refine v_bT rfl (nI_ne0 (by omega) (by omega)) ?_
          refine no (fun z => d1 ?_)
          have := Nat.gcd_dvd_left u a
          rw [z] at this
          exact Nat.mod_eq_zero_of_dvd this
  refine v_in (tb' := t_X4_commonPart) (rk' := 1) rfl rfl rfl ?_
  exact v_run 2 rfl (key a (Nat.le_of_dvd (by omega) (Nat.gcd_dvd_right u a)) (Nat.le_refl _))
theorem c_share {L d u a : Nat} {w : Int32} {D : m_D} {Q : m_K} (h0 : a ≠ 0) (hu : u < 2 ^ 31) (ha : a < 2 ^ 31) (h : Q (some (.long (lN ((if w = 0 then u else a) / Nat.gcd u a)))) D) : m_call L (d + 1) 93 [.long (lN u), .long (lN a), .int w] D Q := by
  have hg : 0 < Nat.gcd u a := Nat.gcd_pos_of_pos_right _ (by omega)
  have hg2 : Nat.gcd u a ≤ a := Nat.le_of_dvd (by omega) (Nat.gcd_dvd_right u a)
  have key : ∀ (n x y : Nat) (r : Option Value), y ≤ n → x < 2 ^ 31 → y < 2 ^ 31 → Nat.gcd x y = Nat.gcd u a → m_V L d Q t_X5_share 3 (6, [some (.long (lN u)), none, some (.long (lN a)), none, some (.int w), some (.long (lN x)), none, some (.long (lN y)), none, r, none], [], D) := by
    intro n
    induction n with
    | zero =>
      intro x y r hy hx hy2 hgc
      have hy : y = 0 := by omega
      subst hy
      rw [Nat.gcd_zero_right] at hgc
      subst hgc
      refine v_go rfl ?_
      refine v_bT rfl ((lg_cmp_eq _ _).mpr rfl) ?_
      refine v_go rfl ?_
      have hz : ¬ lN (Nat.gcd u a) = 0 := fun z => by
        have := (pk_lEQ (b := 0) (by omega) (by omega)).mp z
        omega
      by_cases e : w = 0
      · rw [if_pos e, ← pk_lDiv (by omega) (by omega) (by omega)] at h
        refine v_bF rfl (fun z => z e) ?_
        refine v_go rfl ?_
        refine v_sd rfl hz ?_
        exact v_rt rfl trivial h
      · rw [if_neg e, ← pk_lDiv (by omega) (by omega) (by omega)] at h
        refine v_bT rfl e ?_
        refine v_go rfl ?_
        refine v_sd rfl hz ?_
        exact v_rt rfl trivial h
    | succ n ih =>
      intro x y r hy hx hy2 hgc
      by_cases y0 : y = 0
      · exact ih x y r (by omega) hx hy2 hgc
      · have hm : x % y < y := Nat.mod_lt _ (by omega)
        have ih := ih y (x % y) (some (.long (lN (x % y)))) (by omega) hy2 (by omega) (by rw [Nat.gcd_comm, ← Nat.gcd_rec, Nat.gcd_comm]; exact hgc)
        have hz : ¬ lN y = 0 := fun z => y0 ((pk_lEQ (b := 0) (by omega) (by omega)).mp z)
        refine v_go rfl ?_
        refine v_bF rfl (fun z => hz ((lg_cmp_eq _ _).mp z)) ?_
        refine v_go rfl ?_
        refine v_sd rfl hz ?_
        rw [pk_lRem (by omega) (by omega) (by omega)]
        exact v_run 6 rfl ih
  refine v_in (tb' := t_X5_share) (rk' := 3) rfl rfl rfl ?_
  exact v_run 4 rfl (key a u a none (Nat.le_refl _) hu ha rfl)
theorem p_cnt_le (P : Nat → Bool) : ∀ n, p_cnt P n ≤ n
  | 0 => Nat.le_refl _
  | n + 1 => by
    have h := p_cnt_le P n
    have e : p_cnt P (n + 1) = p_cnt P n + (if P n then 1 else 0) := rfl
    rw [e]
    split <;> omega
def p_en (S : SH) (f v b : Nat) : Bool := decide (v ≤ p_wet (begS S b) f S.1)
def sp_odds (S : SH) (f v : Nat) (w : Int32) : Int64 := lN ((if w = 0 then p_cnt (p_en S f v) (p_nb S) else p_nb S) / Nat.gcd (p_cnt (p_en S f v) (p_nb S)) (p_nb S))
theorem x_odds {L f v : Nat} {w : Int32} {S : SH} {D : m_D} {Q : m_K} (hr : relC 1 D S) (ho : okS S) (hf4 : f < 4) (hv : v ≤ 120) (hw : vp_in w 2) (hn : S.1 ≠ 0) (h : ∀ D', m_fr z_FT D D' → Q (some (.long (sp_odds S f v w))) D') : m_call L 8 63 [.ref 0, .int (nI f), .int (nI v), .int w] D Q := by
  have hn6 := ho.1
  have hnb := p_nb_lt ho
  have hnb0 := p_nb_0 hn
  have hcn := p_cnt_le (p_en S f v) (p_nb S)
  have hin : vp_in (nI f) 4 := vp_in_nI hf4 (by omega)
  have hcl : (nI f).toNatClampNeg = f := nI_clamp (by omega)
  have fin : ∀ (D1 : m_D), m_fr z_FT D D1 → m_V L 7 Q t_X4_odds 3 (116, [some (.ref 0), some (.int (nI f)), some (.int (nI v)), some (.int w), some (.int (nI (p_nb S))), some (.int (nI (p_cnt (p_en S f v) (p_nb S)))), some (.int (nI (p_nb S)))], [], D1) := by
    intro D1 hf
    have h := h D1 hf
    unfold sp_odds at h
    have hg : 0 < Nat.gcd (p_cnt (p_en S f v) (p_nb S)) (p_nb S) := Nat.gcd_pos_of_pos_right _ (by omega)
    have hg2 := Nat.le_of_dvd (by omega) (Nat.gcd_dvd_right (p_cnt (p_en S f v) (p_nb S)) (p_nb S))
    refine v_go rfl ?_
    refine v_ca rfl ?_
    refine c_common hnb0 (by omega) (by omega) ?_
    refine v_go rfl ?_
    by_cases e : w = 0
    · rw [if_pos e] at h
      have hd := Nat.div_le_self (p_cnt (p_en S f v) (p_nb S)) (Nat.gcd (p_cnt (p_en S f v) (p_nb S)) (p_nb S))
      rw [← nI_l (by omega), ← pk_div (by omega) (by omega) (by omega)] at h
      refine v_bF rfl (fun z => z e) ?_
      refine v_go rfl ?_
      refine v_sd rfl (nI_ne0 (by omega) (by omega)) ?_
      exact v_go rfl (v_rt rfl trivial h)
    · rw [if_neg e] at h
      have hd := Nat.div_le_self (p_nb S) (Nat.gcd (p_cnt (p_en S f v) (p_nb S)) (p_nb S))
      rw [← nI_l (by omega), ← pk_div (by omega) (by omega) (by omega)] at h
      refine v_bT rfl e ?_
      refine v_go rfl ?_
      refine v_sd rfl (nI_ne0 (by omega) (by omega)) ?_
      exact v_go rfl (v_rt rfl trivial h)
  have key : ∀ (m b : Nat) (D1 : m_D), b + m = p_nb S → m_fr z_FT D D1 → trB S D1 → m_V L 7 Q t_X4_odds 3 (60, [some (.ref 0), some (.int (nI f)), some (.int (nI v)), some (.int w), some (.int (nI (p_nb S))), some (.int (nI (p_cnt (p_en S f v) b))), some (.int (nI b))], [], D1) := by
    intro m
    induction m with
    | zero =>
      intro b D1 hm hf ht
      have hm : b = p_nb S := by omega
      subst hm
      refine v_go rfl ?_
      refine v_bT rfl (Int32.le_refl _) ?_
      exact fin D1 hf
    | succ m ih =>
      intro b D1 hm hf ht
      refine v_go rfl ?_
      refine v_bF rfl (nI_ge (by omega) (by omega)) ?_
      refine v_go rfl ?_
      refine v_ca rfl ?_
      refine c_beginT ht hn (by omega) (fun D2 hf2 hr2 => ?_)
      refine v_go rfl ?_
      refine v_ca rfl ?_
      refine c_workOut (Or.inr rfl) hr2 (okS_beg ho hn) (fun D3 hf3 hF => ?_)
      have ih := ih (b + 1) D3 (by omega) ((hf.trans (hf2.sub (by simp))).trans (fF hf3)) (trB_F hf3 hr2 ho hn)
      rw [← nI_1] at ih
      have ec : p_cnt (p_en S f v) (b + 1) = p_cnt (p_en S f v) b + (if p_en S f v b then 1 else 0) := rfl
      rw [ec, ← nI_add] at ih
      have e20 : D3 20 f = nI (p_wet (begS S b) f S.1) := hF.2.2.1 f hf4
      have h102 : p_wet (begS S b) f S.1 ≤ 102 := p_wet_102 (okS_beg ho hn) f
      refine v_go rfl ?_
      refine v_sd rfl hin ?_
      rw [hcl, e20]
      refine v_go rfl ?_
      by_cases g : v ≤ p_wet (begS S b) f S.1
      · have ew : p_en S f v b = true := decide_eq_true g
        rw [ew] at ih
        refine v_bF rfl (nI_nlt g (by omega)) ?_
        exact v_run 6 rfl ih
      · have ew : p_en S f v b = false := decide_eq_false g
        rw [ew] at ih
        refine v_bT rfl (nI_lt (by omega) (by omega)) ?_
        exact v_run 5 rfl ih
  refine v_in (tb' := t_X4_odds) (rk' := 3) rfl rfl rfl ?_
  refine v_go rfl ?_
  refine v_ca rfl ?_
  refine c_isWithin (n := 120) (by omega) (fun _ => ?_) (fun z => absurd (vp_in_nI (by omega) (by omega)) z)
  refine v_go rfl ?_
  refine v_bF rfl (by decide) ?_
  refine v_go rfl ?_
  refine v_ca rfl ?_
  refine c_isWithin (n := 1) (by omega) (fun _ => ?_) (fun z => absurd hw z)
  refine v_go rfl ?_
  refine v_bF rfl (by decide) ?_
  refine v_go rfl ?_
  refine v_ca rfl ?_
  refine c_refusalOf hr.1 hn6 (fun z => absurd hin z) (fun _ z => absurd z (by decide)) (fun _ _ z => absurd z hn) (fun _ _ _ => ?_)
  refine v_go rfl ?_
  refine v_bT rfl rfl ?_
  refine v_go rfl ?_
  refine v_ca rfl ?_
  refine c_become hr ho (fun D1 hf1 hr1 => ?_)
  refine v_go rfl ?_
  refine v_ca rfl ?_
  refine c_beginnings (relC_FT (fT hf1) hr) ho ?_
  exact v_run 5 rfl (key (p_nb S) 0 D1 (by omega) (fT hf1) (trB_0 hr1 ho))
theorem y_odds {L f v : Nat} {w : Int32} {S : SH} {D : m_D} {Q : m_K} (hr : relM D S) (ho : okS S) (hf4 : f < 4) (hv : v ≤ 120) (hw : vp_in w 2) (hn : S.1 ≠ 0) (hk : S.2.1 ≠ 0) (h : ∀ D', m_fM z_MT [22] D D' → relM D' S → Q (some (.long (sp_odds S f v w))) D') : m_call L 8 150 [.ref 34, .int (nI f), .int (nI v), .int w] D Q := by
  have hn6 := ho.1
  have hk3 := ho.2.1
  have hnb := p_nb_lt ho
  have hnb0 := p_nb_0 hn
  have hcn := p_cnt_le (p_en S f v) (p_nb S)
  have r2 : D 34 2 = nI S.2.1 := hr.2.1
  have hin : vp_in (nI f) 4 := vp_in_nI hf4 (by omega)
  have key : ∀ (m b : Nat) (D1 : m_D), b + m = p_nb S → m_fM z_MT [22] D D1 → trM S D1 → relH D1 S → m_V L 7 Q t_X5_odds 3 (50, [some (.ref 34), some (.int (nI f)), some (.int (nI v)), some (.int w), some (.int (nI (p_cnt (p_en S f v) b))), some (.int (nI b))], [], D1) := by
    intro m
    induction m with
    | zero =>
      intro b D1 hm hf ht hh
      have hm : b = p_nb S := by omega
      subst hm
      obtain ⟨S1, hr1, ho1, e1, e2, -, -⟩ := id ht
      refine v_go rfl ?_
      refine v_ca rfl ?_
      refine c_beginningsM hr1 ho1 ?_
      refine v_go rfl ?_
      have e3 : p_nb S1 = p_nb S := by
        unfold p_nb
        rw [e1, e2]
      rw [e3]
      refine v_bT rfl (Int32.le_refl _) ?_
      refine v_go rfl ?_
      refine v_ca rfl ?_
      refine c_bringT ht ho hh (fun D2 hf2 hr2 => ?_)
      have h := h D2 (hf.trans (mtV hf2)) hr2
      refine v_go rfl ?_
      refine v_ca rfl ?_
      refine c_beginningsM hr2 ho ?_
      refine v_go rfl ?_
      refine v_ca rfl ?_
      rw [nI_l (by omega), nI_l (by omega)]
      refine c_share hnb0 (by omega) (by omega) ?_
      exact v_rt rfl trivial h
    | succ m ih =>
      intro b D1 hm hf ht hh
      obtain ⟨S1, hr1, ho1, e1, e2, -, -⟩ := id ht
      refine v_go rfl ?_
      refine v_ca rfl ?_
      refine c_beginningsM hr1 ho1 ?_
      refine v_go rfl ?_
      have e3 : p_nb S1 = p_nb S := by
        unfold p_nb
        rw [e1, e2]
      rw [e3]
      refine v_bF rfl (nI_ge (by omega) (by omega)) ?_
      refine v_go rfl ?_
      refine v_ca rfl ?_
      refine c_beginM ht hn (by omega) (fun D2 hf2 hr2 => ?_)
      refine v_go rfl ?_
      refine v_ca rfl ?_
      refine c_wetNow hr2 (okS_beg ho hn) hf4 (fun D3 hf3 hF => ?_)
      have hr3 := relM_keep hf3 (by decide) (by decide) hr2
      have hh3 : relH D3 S := relH_keep (relH_keep hh hf2 (by decide)) hf3 (by decide)
      have ih := ih (b + 1) D3 (by omega) ((hf.trans (mtB hf2)).trans (mtR hf3)) (trM_b hr3 ho hn) hh3
      rw [← nI_1] at ih
      have ec : p_cnt (p_en S f v) (b + 1) = p_cnt (p_en S f v) b + (if p_en S f v b then 1 else 0) := rfl
      rw [ec, ← nI_add] at ih
      have h102 : p_wet (begS S b) f S.1 ≤ 102 := p_wet_102 (okS_beg ho hn) f
      refine v_go rfl ?_
      by_cases g : v ≤ p_wet (begS S b) f S.1
      · have ew : p_en S f v b = true := decide_eq_true g
        rw [ew] at ih
        refine v_bF rfl (nI_nlt (a := p_wet (begS S b) f S.1) g (by omega)) ?_
        exact v_run 6 rfl ih
      · have ew : p_en S f v b = false := decide_eq_false g
        rw [ew] at ih
        refine v_bT rfl (nI_lt (a := p_wet (begS S b) f S.1) (by omega) (by omega)) ?_
        exact v_run 5 rfl ih
  refine v_in (tb' := t_X5_odds) (rk' := 3) rfl rfl rfl ?_
  refine v_go rfl ?_
  refine v_ca rfl ?_
  refine c_noField (fun _ => ?_) (fun z => absurd hin z)
  refine v_go rfl ?_
  refine v_bF rfl (by decide) ?_
  refine v_go rfl ?_
  refine v_ca rfl ?_
  refine c_in (fun _ _ => ?_) (fun z => absurd ((in_iff (n := 121) (by decide)).mpr (vp_in_nI (by omega) (by omega))) z)
  refine v_go rfl ?_
  refine v_bF rfl (by decide) ?_
  refine v_go rfl ?_
  refine v_ca rfl ?_
  refine c_in (fun _ _ => ?_) (fun z => absurd ((in_iff (n := 2) (by decide)).mpr hw) z)
  refine v_go rfl ?_
  refine v_bF rfl (by decide) ?_
  refine v_go rfl ?_
  rw [r2]
  refine v_bT rfl (nI_ne0 (by omega) (by omega)) ?_
  refine v_go rfl ?_
  refine v_ca rfl ?_
  refine c_keeps hr ho (fun D1 hf1 hh1 => ?_)
  have hr1 := relM_keep hf1 (by decide) (by decide) hr
  exact v_run 4 rfl (key (p_nb S) 0 D1 (by omega) (mtK hf1) (trM_0 hr1 ho) hh1)
theorem s_odds (x y w : Int32) : StepL 63 150 [.int x, .int y, .int w] := by
  intro L Z hz
  obtain ⟨S, rd, sh, tr, fl⟩ := Z
  have hoS : okS S := hz.1
  have hn6 : S.1 ≤ 6 := hoS.1
  have hnk : S.1 = 0 ↔ S.2.1 = 0 := hz.2.1
  have hk3 : S.2.1 ≤ 3 := hoS.2.1
  by_cases hok : vp_in x 4 ∧ vp_in y 121 ∧ vp_in w 2 ∧ S.1 ≠ 0
  · obtain ⟨hx, hy, hw, hn⟩ := hok
    have hk : S.2.1 ≠ 0 := fun z => hn (hnk.mpr z)
    obtain ⟨f, hf, rfl⟩ := vp_in_of hx (by omega)
    obtain ⟨v, hv, rfl⟩ := vp_in_of hy (by omega)
    refine ⟨sp_odds S f v w, (S, rd, sh, tr, fl), hz, fun D Q hI h => ?_, fun D Q hI h => ?_⟩
    · exact x_odds hI.1 hoS hf (by omega) hw hn (fun D' hf => h D' (frC_FT hf) (InvC_FT hI hf))
    · exact y_odds hI.1 hoS hf (by omega) hw hn hk (fun D' hf hr => h D' (frM_MT hf) (InvM_MT hI hr hf))
  · refine ⟨-9223372036854775808, (S, rd, sh, tr, fl), hz, fun D Q hI h => ?_, fun D Q hI h => ?_⟩
    · have h := h D (frC.refl _) hI
      have tail : ∀ b : Int32, (b = 0 ∨ (vp_in y 121 ∧ vp_in w 2)) → m_V L 7 Q t_X4_odds 3 (24, [some (.ref 0), some (.int x), some (.int y), some (.int w), none, none, none], [.int b, .int x, .ref 0], D) := by
        intro b hb
        refine v_ca rfl ?_
        refine c_refusalOf hI.1.1 hn6 (fun z => ?_) (fun _ z => ?_) (fun _ _ z => ?_) (fun z1 z2 z3 => absurd ⟨z1, (hb.resolve_left z2).1, (hb.resolve_left z2).2, z3⟩ hok)
        · refine v_go rfl ?_
          refine v_bF rfl (by decide) ?_
          exact v_go rfl (v_rt rfl trivial h)
        · refine v_go rfl ?_
          refine v_bF rfl (by decide) ?_
          exact v_go rfl (v_rt rfl trivial h)
        · refine v_go rfl ?_
          refine v_bF rfl (by decide) ?_
          exact v_go rfl (v_rt rfl trivial h)
      refine v_in (tb' := t_X4_odds) (rk' := 3) rfl rfl rfl ?_
      refine v_go rfl ?_
      refine v_ca rfl ?_
      refine c_isWithin (n := 120) (by omega) (fun z1 => ?_) (fun z1 => ?_)
      · refine v_go rfl ?_
        refine v_bF rfl (by decide) ?_
        refine v_go rfl ?_
        refine v_ca rfl ?_
        refine c_isWithin (n := 1) (by omega) (fun z2 => ?_) (fun z2 => ?_)
        · refine v_go rfl ?_
          refine v_bF rfl (by decide) ?_
          exact v_go rfl (tail 1 (Or.inr ⟨z1, z2⟩))
        · refine v_go rfl ?_
          refine v_bT rfl rfl ?_
          exact v_go rfl (tail 0 (Or.inl rfl))
      · refine v_go rfl ?_
        refine v_bT rfl rfl ?_
        exact v_go rfl (tail 0 (Or.inl rfl))
    · have h := h D (frM.refl _) hI
      have r2 : D 34 2 = nI S.2.1 := hI.1.2.1
      have tail : m_V L 7 Q t_X5_odds 3 (36, [some (.ref 34), some (.int x), some (.int y), some (.int w), none, none], [], D) := by
        refine v_ca rfl ?_
        refine c_lostM ?_
        exact v_rt rfl trivial h
      refine v_in (tb' := t_X5_odds) (rk' := 3) rfl rfl rfl ?_
      refine v_go rfl ?_
      refine v_ca rfl ?_
      refine c_noField (fun z1 => ?_) (fun z1 => ?_)
      · refine v_go rfl ?_
        refine v_bF rfl (by decide) ?_
        refine v_go rfl ?_
        refine v_ca rfl ?_
        refine c_in (fun p1 p2 => ?_) (fun z => ?_)
        · have z2 := (in_iff (n := 121) (by decide)).mp ⟨p1, p2⟩
          refine v_go rfl ?_
          refine v_bF rfl (by decide) ?_
          refine v_go rfl ?_
          refine v_ca rfl ?_
          refine c_in (fun p1 p2 => ?_) (fun z => ?_)
          · have z3 := (in_iff (n := 2) (by decide)).mp ⟨p1, p2⟩
            have hn : S.1 = 0 := Decidable.not_not.mp (fun z4 => hok ⟨z1, z2, z3, z4⟩)
            have hk := hnk.mp hn
            rw [hk] at r2
            refine v_go rfl ?_
            refine v_bF rfl (by decide) ?_
            refine v_go rfl ?_
            rw [r2]
            refine v_bF rfl (fun z => z rfl) ?_
            exact tail
          · refine v_go rfl ?_
            refine v_bT rfl rfl ?_
            exact tail
        · refine v_go rfl ?_
          refine v_bT rfl rfl ?_
          exact tail
      · refine v_go rfl ?_
        refine v_bT rfl (by decide) ?_
        exact tail
end
section
/-! ===== strayed ===== -/
theorem setT_setT (S : SH) (i c v w : Nat) : setT (setT S i c v) i c w = setT S i c w := by
  unfold setT
  congr 3
  funext a b
  by_cases e : a = i ∧ b = c
  · rw [if_pos e, if_pos e]
  · rw [if_neg e, if_neg e]
    exact if_neg e
theorem setT_self (S : SH) (i c : Nat) : setT S i c (S.2.2.1 i c) = S := by
  obtain ⟨n, k, T, g⟩ := S
  unfold setT
  congr 3
  funext a b
  by_cases e : a = i ∧ b = c
  · rw [if_pos e, e.1, e.2]
  · rw [if_neg e]
def trT (i c : Nat) (S : SH) (D : m_D) : Prop := ∃ S1, relC 8 D S1 ∧ ∀ v, setT S1 i c v = setT S i c v
theorem trT_0 {i c : Nat} {S : SH} {D : m_D} (h : relC 8 D S) : trT i c S D := ⟨S, h, fun _ => rfl⟩
theorem trT_F {i c v : Nat} {S : SH} {D D' : m_D} (hf : m_fr z_F D D') (h : relC 8 D (setT S i c v)) : trT i c S D' := ⟨_, relC_c (fun i hi => hf _ (z_F_B (Or.inr rfl) i hi)) h, fun w => setT_setT S i c v w⟩
theorem trT_up {i c : Nat} {S : SH} {D : m_D} (hi : i < 5) (h : trT i c S D) (v : Nat) : relC 8 (m_up D (8 + 1 + i) c (nI v)) (setT S i c v) := by
  obtain ⟨S1, h1, h2⟩ := h
  rw [← h2 v]
  exact relC_setT hi h1
def trU (i c : Nat) (S : SH) (D : m_D) : Prop := ∃ S1, relM D S1 ∧ ∀ v, setT S1 i c v = setT S i c v
theorem trU_0 {i c : Nat} {S : SH} {D : m_D} (h : relM D S) : trU i c S D := ⟨S, h, fun _ => rfl⟩
theorem trU_R {i c v : Nat} {S : SH} {D D' : m_D} (hf : m_fM z_R [22] D D') (h : relM D (setT S i c v)) : trU i c S D' := ⟨_, relM_keep hf (by decide) (by decide) h, fun w => setT_setT S i c v w⟩
theorem trU_up {i c : Nat} {S : SH} {D : m_D} (hi : i < 5) (h : trU i c S D) (v : Nat) : relM (m_up D (35 + i) c (nI v)) (setT S i c v) := by
  obtain ⟨S1, h1, h2⟩ := h
  rw [← h2 v]
  exact relM_setT hi h1
def p_wf (S : SH) : Nat → Int32
  | 0 => 0
  | f + 1 => p_wf S f ||| (if 0 < p_wet S f S.1 then 1 <<< (nI f &&& 31) else 0)
theorem c_wetFields {L d : Nat} {S : SH} {D : m_D} {Q : m_K} (ho : okS S) (hF : ∀ f, f < 4 → D 20 f = nI (p_wet S f S.1)) (h : Q (some (.int (p_wf S 4))) D) : m_call L (d + 1) 5 [.ref 15] D Q := by
  have key : ∀ (m f : Nat), f + m = 4 → m_V L d Q t_X0_wetFields 1 (4, [some (.ref 15), some (.int (p_wf S f)), some (.int (nI f))], [], D) := by
    intro m
    induction m with
    | zero =>
      intro f hm
      have hm : f = 4 := by omega
      subst hm
      refine v_go rfl ?_
      refine v_bT rfl (Int32.le_refl _) ?_
      exact v_go rfl (v_rt rfl trivial h)
    | succ m ih =>
      intro f hm
      have hin : vp_in (nI f) 4 := vp_in_nI (by omega) (by omega)
      have hcl : (nI f).toNatClampNeg = f := nI_clamp (by omega)
      have h102 := p_wet_102 ho f
      have ih := ih (f + 1) (by omega)
      rw [← nI_1] at ih
      have e : p_wf S (f + 1) = p_wf S f ||| (if 0 < p_wet S f S.1 then 1 <<< (nI f &&& 31) else 0) := rfl
      rw [e] at ih
      refine v_go rfl ?_
      refine v_bF rfl (nI_ge (b := 4) (by omega) (by omega)) ?_
      refine v_go rfl ?_
      refine v_sd rfl hin ?_
      rw [hcl, hF f (by omega)]
      by_cases g : 0 < p_wet S f S.1
      · rw [if_pos g] at ih
        refine v_bF rfl (nI_nle g (by omega)) ?_
        exact v_run 8 rfl ih
      · rw [if_neg g] at ih
        refine v_bT rfl (nI_le (b := 0) (by omega) (by omega)) ?_
        exact v_run 5 rfl ih
  refine v_in (tb' := t_X0_wetFields) (rk' := 1) rfl rfl rfl ?_
  exact v_run 4 rfl (key 4 0 (by omega))
def p_M (S : SH) : Int32 := (1 <<< (nI S.1 &&& 31)) - 1
def p_sf (S : SH) (c : Nat) : Nat → Int32
  | 0 => p_M S
  | l + 1 => p_sf S c l &&& ((p_hang (setT S 4 c l) S.1 ||| p_mud (setT S 4 c l) S.1) ^^^ -1)
def p_sw (S : SH) (c : Nat) : Nat → Int32
  | 0 => 15
  | l + 1 => p_sw S c l &&& p_wf (setT S 4 c l) 4
def p_mf (S : SH) (c : Nat) : Nat → Int32
  | 0 => 63
  | l + 1 => p_mf S c l &&& ((p_M S &&& (p_hang (setT S 4 c l) S.1 ^^^ -1)) &&& (p_mud (setT S 4 c l) S.1 ^^^ -1))
theorem bw1 (B M h m : Int32) : (B &&& ((M &&& (h ^^^ -1)) &&& (m ^^^ -1))) &&& M = (B &&& M) &&& ((h ||| m) ^^^ -1) := by
  apply Int32.toBitVec_inj.mp
  simp only [Int32.toBitVec_and, Int32.toBitVec_or, Int32.toBitVec_xor]
  have e : (-1 : Int32).toBitVec = BitVec.allOnes 32 := by decide
  rw [e]
  apply BitVec.eq_of_getLsbD_eq
  intro i hi
  simp only [BitVec.getLsbD_and, BitVec.getLsbD_or, BitVec.getLsbD_xor, BitVec.getLsbD_allOnes, hi, decide_true]
  cases B.toBitVec.getLsbD i <;> cases M.toBitVec.getLsbD i <;> cases h.toBitVec.getLsbD i <;> cases m.toBitVec.getLsbD i <;> rfl
theorem bw2 (B M h m : Int32) : (B &&& ((M &&& h) &&& m)) &&& M = B &&& ((M &&& h) &&& m) := by
  apply Int32.toBitVec_inj.mp
  simp only [Int32.toBitVec_and]
  apply BitVec.eq_of_getLsbD_eq
  intro i hi
  simp only [BitVec.getLsbD_and]
  cases B.toBitVec.getLsbD i <;> cases M.toBitVec.getLsbD i <;> cases h.toBitVec.getLsbD i <;> cases m.toBitVec.getLsbD i <;> rfl
theorem p_M63 : ∀ n, n ≤ 6 → (63 : Int32) &&& (((1 : Int32) <<< (nI n &&& 31)) - (1 : Int32)) = ((1 : Int32) <<< (nI n &&& 31)) - (1 : Int32) := by decide +kernel
theorem p_mf_sf (S : SH) (c : Nat) (hn : S.1 ≤ 6) : ∀ l, p_mf S c l &&& p_M S = p_sf S c l
  | 0 => p_M63 S.1 hn
  | l + 1 => by
    have ih := p_mf_sf S c hn l
    show (p_mf S c l &&& ((p_M S &&& (p_hang (setT S 4 c l) S.1 ^^^ -1)) &&& (p_mud (setT S 4 c l) S.1 ^^^ -1))) &&& p_M S = p_sf S c l &&& ((p_hang (setT S 4 c l) S.1 ||| p_mud (setT S 4 c l) S.1) ^^^ -1)
    rw [bw1, ih]
theorem p_mf_eq (S : SH) (c : Nat) (hn : S.1 ≤ 6) {l : Nat} (hl : l ≠ 0) : p_mf S c l = p_sf S c l := by
  obtain ⟨q, rfl⟩ : ∃ q, l = q + 1 := ⟨l - 1, by omega⟩
  rw [← p_mf_sf S c hn]
  exact (bw2 _ _ _ _).symm
theorem wf4 : ∀ b0 b1 b2 b3 : Bool, (((((0 : Int32) ||| if b0 then (1 : Int32) <<< (nI 0 &&& 31) else (0 : Int32)) ||| if b1 then (1 : Int32) <<< (nI 1 &&& 31) else (0 : Int32)) ||| if b2 then (1 : Int32) <<< (nI 2 &&& 31) else (0 : Int32)) ||| if b3 then (1 : Int32) <<< (nI 3 &&& 31) else (0 : Int32)) = ((((if b0 then (15 : Int32) else (15 : Int32) - ((1 : Int32) <<< (nI 0 &&& 31))) &&& (if b1 then (15 : Int32) else (15 : Int32) - ((1 : Int32) <<< (nI 1 &&& 31)))) &&& (if b2 then (15 : Int32) else (15 : Int32) - ((1 : Int32) <<< (nI 2 &&& 31)))) &&& (if b3 then (15 : Int32) else (15 : Int32) - ((1 : Int32) <<< (nI 3 &&& 31)))) := by decide +kernel
def p_tf (S : SH) (f : Nat) : Int32 := if 0 < p_wet S f S.1 then (15 : Int32) else (15 : Int32) - ((1 : Int32) <<< (nI f &&& 31))
def p_ta (S : SH) (w : Int32) : Nat → Int32
  | 0 => w
  | f + 1 => p_ta S w f &&& p_tf S f
theorem p_ta4 (S : SH) (w : Int32) : p_ta S w 4 = w &&& p_wf S 4 := by
  have e := wf4 (decide (0 < p_wet S 0 S.1)) (decide (0 < p_wet S 1 S.1)) (decide (0 < p_wet S 2 S.1)) (decide (0 < p_wet S 3 S.1))
  simp only [decide_eq_true_eq] at e
  have e1 : p_wf S 4 = ((p_tf S 0 &&& p_tf S 1) &&& p_tf S 2) &&& p_tf S 3 := e
  rw [e1]
  show (((w &&& p_tf S 0) &&& p_tf S 1) &&& p_tf S 2) &&& p_tf S 3 = _
  rw [Int32.and_assoc, Int32.and_assoc, Int32.and_assoc, Int32.and_assoc, Int32.and_assoc]
def sp_stray (S : SH) (c : Nat) (y : Int32) : Int32 := if y = 0 then p_sf S c S.1 else p_sw S c S.1
theorem x_stray {L c : Nat} {y : Int32} {S : SH} {D : m_D} {Q : m_K} (hr : relC 1 D S) (ho : okS S) (hc : c < S.2.1) (hy : vp_in y 2) (h : ∀ D', m_fr z_FT D D' → Q (some (.int (sp_stray S c y))) D') : m_call L 8 47 [.ref 0, .int (nI c), .int y] D Q := by
  have hn6 := ho.1
  have hk3 := ho.2.1
  have hin : vp_in (nI c) 3 := vp_in_nI (by omega) (by omega)
  have hcl : (nI c).toNatClampNeg = c := nI_clamp (by omega)
  have r1 : D 1 0 = nI S.1 := hr.1
  have key : ∀ (m l : Nat) (D1 : m_D), l + m = S.1 → m_fr z_FT D D1 → trT 4 c S D1 → m_V L 7 Q t_X4_strayed 1 (56, [some (.ref 0), some (.int (nI c)), some (.int y), some (.int (if y = 0 then p_sf S c l else p_sw S c l)), some (.int (nI l))], [], D1) := by
    intro m
    induction m with
    | zero =>
      intro l D1 hm hf ht
      have hm : l = S.1 := by omega
      subst hm
      have r1 : D1 1 0 = nI S.1 := by rw [hf 1 (by simp)]; exact r1
      refine v_go rfl ?_
      rw [r1]
      refine v_bT rfl (Int32.le_refl _) ?_
      exact v_go rfl (v_rt rfl trivial (h D1 hf))
    | succ m ih =>
      intro l D1 hm hf ht
      have r1 : D1 1 0 = nI S.1 := by rw [hf 1 (by simp)]; exact r1
      have hr2 := trT_up (by omega) ht l
      have hf2 : m_fr z_FT D (m_up D1 13 c (nI l)) := hf.up (by simp)
      have ho2 : okS (setT S 4 c l) := okS_setT ho ⟨by omega, by omega, by omega, by omega, fun _ => by omega⟩
      refine v_go rfl ?_
      rw [r1]
      refine v_bF rfl (nI_ge (by omega) (by omega)) ?_
      refine v_go rfl ?_
      refine v_sd rfl hin ?_
      rw [hcl]
      refine v_go rfl ?_
      refine v_ca rfl ?_
      refine c_workOut (Or.inr rfl) hr2 ho2 (fun D3 hf3 hF => ?_)
      have ih := ih (l + 1) D3 (by omega) (hf2.trans (fF hf3)) (trT_F hf3 hr2)
      rw [← nI_1] at ih
      have e5 : D3 15 5 = p_hang (setT S 4 c l) S.1 := hF.2.2.2.1
      have e6 : D3 15 6 = p_mud (setT S 4 c l) S.1 := hF.2.2.2.2.1
      refine v_go rfl ?_
      by_cases e : y = 0
      · rw [if_pos e] at ih ⊢
        have ih : m_V L 7 Q t_X4_strayed 1 (56, [some (.ref 0), some (.int (nI c)), some (.int y), some (.int (p_sf S c l &&& ((p_hang (setT S 4 c l) S.1 ||| p_mud (setT S 4 c l) S.1) ^^^ -1))), some (.int (nI l + 1))], [], D3) := ih
        rw [← e5, ← e6] at ih
        refine v_bF rfl (fun z => z e) ?_
        exact v_run 14 rfl ih
      · rw [if_neg e] at ih ⊢
        refine v_bT rfl e ?_
        refine v_go rfl ?_
        refine v_ca rfl ?_
        refine c_wetFields ho2 hF.2.2.1 ?_
        exact v_run 4 rfl ih
  refine v_in (tb' := t_X4_strayed) (rk' := 1) rfl rfl rfl ?_
  refine v_go rfl ?_
  refine v_ca rfl ?_
  refine c_isCrier hr.2.1 (by omega) (fun _ => ?_) (fun z => absurd (vp_in_nI hc (by omega)) z)
  refine v_go rfl ?_
  refine v_bT rfl (by decide) ?_
  refine v_go rfl ?_
  refine v_ca rfl ?_
  refine c_isWithin (n := 1) (by omega) (fun _ => ?_) (fun z => absurd hy z)
  refine v_go rfl ?_
  refine v_bT rfl (by decide) ?_
  refine v_go rfl ?_
  refine v_ca rfl ?_
  refine c_become hr ho (fun D1 hf1 hr1 => ?_)
  have key := key S.1 0 D1 (by omega) (fT hf1) (trT_0 hr1)
  have r1 : D1 1 0 = nI S.1 := by rw [hf1 1 (by simp)]; exact r1
  refine v_go rfl ?_
  by_cases e : y = 0
  · rw [if_pos e] at key
    refine v_bF rfl (fun z => z e) ?_
    have key : m_V L 7 Q t_X4_strayed 1 (56, [some (.ref 0), some (.int (nI c)), some (.int y), some (.int ((1 <<< (nI S.1 &&& 31)) - 1)), some (.int (nI 0))], [], D1) := key
    rw [← r1] at key
    exact v_run 11 rfl key
  · rw [if_neg e] at key
    refine v_bT rfl e ?_
    exact v_run 4 rfl key
theorem y_stray {L c : Nat} {y : Int32} {S : SH} {D : m_D} {Q : m_K} (hr : relM D S) (ho : okS S) (hn : S.1 ≠ 0) (hc : c < S.2.1) (hy : vp_in y 2) (h : ∀ D', m_fM z_MT [22] D D' → relM D' S → Q (some (.int (sp_stray S c y))) D') : m_call L 8 137 [.ref 34, .int (nI c), .int y] D Q := by
  have hn6 := ho.1
  have hk3 := ho.2.1
  have hin : vp_in (nI c) 3 := vp_in_nI (by omega) (by omega)
  have hcl : (nI c).toNatClampNeg = c := nI_clamp (by omega)
  have r1 : D 34 1 = nI S.1 := hr.1
  have r39 : D 39 c = nI (S.2.2.1 4 c) := (hr.2.2.2.1 c hc).2.2
  have key : ∀ (m l : Nat) (z : Option Value) (D1 : m_D), l + m = S.1 → m_fM z_MT [22] D D1 → trU 4 c S D1 → m_V L 7 Q t_X5_strayed 1 (41, [some (.ref 34), some (.int (nI c)), some (.int y), some (.int (nI (S.2.2.1 4 c))), some (.int (p_mf S c l)), some (.int (p_sw S c l)), some (.int (nI l)), z], [], D1) := by
    intro m
    induction m with
    | zero =>
      intro l z D1 hm hf ht
      have hm : l = S.1 := by omega
      subst hm
      have r1 : D1 34 1 = nI S.1 := by rw [hf.2 1 (by simp)]; exact r1
      have hr2 := trU_up (by omega) ht (S.2.2.1 4 c)
      rw [setT_self] at hr2
      have hf2 : m_fM z_MT [22] D (m_up D1 39 c (nI (S.2.2.1 4 c))) := hf.up (by simp) (by decide)
      have h := h _ hf2 hr2
      unfold sp_stray at h
      rw [p_mf_eq S c hn6 hn]
      refine v_go rfl ?_
      rw [r1]
      refine v_bT rfl (Int32.le_refl _) ?_
      refine v_go rfl ?_
      refine v_sd rfl hin ?_
      rw [hcl]
      refine v_go rfl ?_
      by_cases e : y = 0
      · rw [if_pos e] at h
        refine v_bF rfl (fun z => z e) ?_
        exact v_go rfl (v_rt rfl trivial h)
      · rw [if_neg e] at h
        refine v_bT rfl e ?_
        exact v_go rfl (v_rt rfl trivial h)
    | succ m ih =>
      intro l z D1 hm hf ht
      have r1 : D1 34 1 = nI S.1 := by rw [hf.2 1 (by simp)]; exact r1
      have hr2 := trU_up (by omega) ht l
      have hf2 : m_fM z_MT [22] D (m_up D1 39 c (nI l)) := hf.up (by simp) (by decide)
      have ho2 : okS (setT S 4 c l) := okS_setT ho ⟨by omega, by omega, by omega, by omega, fun _ => by omega⟩
      refine v_go rfl ?_
      rw [r1]
      refine v_bF rfl (nI_ge (by omega) (by omega)) ?_
      refine v_go rfl ?_
      refine v_sd rfl hin ?_
      rw [hcl]
      refine v_go rfl ?_
      refine v_ca rfl ?_
      refine c_rains hr2 ho2 (fun D3 hf3 hF => ?_)
      have hr3 := relM_keep hf3 (by decide) (by decide) hr2
      have r3 : D3 34 1 = nI S.1 := hr3.1
      have ih := fun z => ih (l + 1) z D3 (by omega) (hf2.trans (mtR hf3)) (trU_R hf3 hr2)
      rw [← nI_1] at ih
      have e1 : p_sw S c (l + 1) = p_ta (setT S 4 c l) (p_sw S c l) 4 := (p_ta4 _ _).symm
      rw [e1] at ih
      refine v_go rfl ?_
      refine v_ca rfl ?_
      refine c_hang (S := setT S 4 c l) r3 hn6 (fun i hi => (hF.1 i hi).1) ?_
      refine v_go rfl ?_
      refine v_ca rfl ?_
      refine c_mud (S := setT S 4 c l) r3 hn6 hk3 (fun i hi => ⟨(hF.1 i hi).1, (hF.1 i hi).2.1⟩) ?_
      rw [r3]
      have inner : ∀ (q f : Nat), f + q = 4 → m_V L 7 Q t_X5_strayed 1 (92, [some (.ref 34), some (.int (nI c)), some (.int y), some (.int (nI (S.2.2.1 4 c))), some (.int (p_mf S c (l + 1))), some (.int (p_ta (setT S 4 c l) (p_sw S c l) f)), some (.int (nI l)), some (.int (nI f))], [], D3) := by
        intro q
        induction q with
        | zero =>
          intro f hq
          have hq : f = 4 := by omega
          subst hq
          refine v_go rfl ?_
          refine v_bT rfl (Int32.le_refl _) ?_
          exact v_run 2 rfl (ih _)
        | succ q ih2 =>
          intro f hq
          have hin2 : vp_in (nI f) 4 := vp_in_nI (by omega) (by omega)
          have hcl2 : (nI f).toNatClampNeg = f := nI_clamp (by omega)
          have h102 := p_wet_102 ho2 f
          have ih2 := ih2 (f + 1) (by omega)
          rw [← nI_1] at ih2
          have e : p_ta (setT S 4 c l) (p_sw S c l) (f + 1) = p_ta (setT S 4 c l) (p_sw S c l) f &&& (if 0 < p_wet (setT S 4 c l) f (setT S 4 c l).1 then (15 : Int32) else (15 : Int32) - ((1 : Int32) <<< (nI f &&& 31))) := rfl
          rw [e] at ih2
          refine v_go rfl ?_
          refine v_bF rfl (nI_ge (b := 4) (by omega) (by omega)) ?_
          refine v_go rfl ?_
          refine v_sd rfl hin2 ?_
          rw [hcl2, hF.2.2.1 f (by omega)]
          by_cases g : 0 < p_wet (setT S 4 c l) f (setT S 4 c l).1
          · rw [if_pos g] at ih2
            refine v_bF rfl (nI_nle g (by omega)) ?_
            exact v_run 6 rfl ih2
          · rw [if_neg g] at ih2
            refine v_bT rfl (nI_le (b := 0) (by omega) (by omega)) ?_
            exact v_run 9 rfl ih2
      exact v_run 7 rfl (inner 4 0 (by omega))
  refine v_in (tb' := t_X5_strayed) (rk' := 1) rfl rfl rfl ?_
  refine v_go rfl ?_
  refine v_ca rfl ?_
  refine c_noCrier hr.2.1 (by omega) (fun _ => ?_) (fun z => absurd (vp_in_nI hc (by omega)) z)
  refine v_go rfl ?_
  refine v_bT rfl rfl ?_
  refine v_go rfl ?_
  refine v_ca rfl ?_
  refine c_in (fun _ _ => ?_) (fun z => absurd ((in_iff (n := 2) (by decide)).mpr hy) z)
  refine v_go rfl ?_
  refine v_bT rfl (by decide) ?_
  refine v_go rfl ?_
  refine v_sd rfl hin ?_
  rw [hcl, r39]
  exact v_run 7 rfl (key S.1 0 none D (by omega) (m_fM.refl _ _ _) (trU_0 hr))
theorem s_strayed (x y : Int32) : StepI 47 137 [.int x, .int y] := by
  intro L Z hz
  obtain ⟨S, rd, sh, tr, fl⟩ := Z
  have hoS : okS S := hz.1
  have hn6 : S.1 ≤ 6 := hoS.1
  have hnk : S.1 = 0 ↔ S.2.1 = 0 := hz.2.1
  have hk3 : S.2.1 ≤ 3 := hoS.2.1
  by_cases hx : vp_in x S.2.1
  · by_cases hy : vp_in y 2
    · obtain ⟨c, hc, rfl⟩ := vp_in_of hx (by omega)
      have hn : S.1 ≠ 0 := fun z => by
        have := hnk.mp z
        omega
      refine ⟨sp_stray S c y, (S, rd, sh, tr, fl), hz, fun D Q hI h => ?_, fun D Q hI h => ?_⟩
      · exact x_stray hI.1 hoS hc hy (fun D' hf => h D' (frC_FT hf) (InvC_FT hI hf))
      · exact y_stray hI.1 hoS hn hc hy (fun D' hf hr => h D' (frM_MT hf) (InvM_MT hI hr hf))
    · refine ⟨-2, (S, rd, sh, tr, fl), hz, fun D Q hI h => ?_, fun D Q hI h => ?_⟩
      · refine v_in (tb' := t_X4_strayed) (rk' := 1) rfl rfl rfl ?_
        refine v_go rfl ?_
        refine v_ca rfl ?_
        refine c_isCrier hI.1.2.1 (show S.2.1 ≤ 6 by omega) (fun _ => ?_) (fun z => absurd hx z)
        refine v_go rfl ?_
        refine v_bT rfl (by decide) ?_
        refine v_go rfl ?_
        refine v_ca rfl ?_
        refine c_isWithin (n := 1) (by omega) (fun z => absurd z hy) (fun _ => ?_)
        refine v_go rfl ?_
        refine v_bF rfl (by decide) ?_
        exact v_go rfl (v_rt rfl trivial (h _ (frC.refl _) hI))
      · refine v_in (tb' := t_X5_strayed) (rk' := 1) rfl rfl rfl ?_
        refine v_go rfl ?_
        refine v_ca rfl ?_
        refine c_noCrier hI.1.2.1 (show S.2.1 ≤ 6 by omega) (fun _ => ?_) (fun z => absurd hx z)
        refine v_go rfl ?_
        refine v_bT rfl rfl ?_
        refine v_go rfl ?_
        refine v_ca rfl ?_
        refine c_in (fun p1 p2 => absurd ((in_iff (n := 2) (by decide)).mp ⟨p1, p2⟩) hy) (fun _ => ?_)
        refine v_go rfl ?_
        refine v_bF rfl (by decide) ?_
        exact v_go rfl (v_rt rfl trivial (h _ (frM.refl _) hI))
  · refine ⟨-1, (S, rd, sh, tr, fl), hz, fun D Q hI h => ?_, fun D Q hI h => ?_⟩
    · refine v_in (tb' := t_X4_strayed) (rk' := 1) rfl rfl rfl ?_
      refine v_go rfl ?_
      refine v_ca rfl ?_
      refine c_isCrier hI.1.2.1 (show S.2.1 ≤ 6 by omega) (fun z => absurd z hx) (fun _ => ?_)
      refine v_go rfl ?_
      refine v_bF rfl (by decide) ?_
      exact v_go rfl (v_rt rfl trivial (h _ (frC.refl _) hI))
    · refine v_in (tb' := t_X5_strayed) (rk' := 1) rfl rfl rfl ?_
      refine v_go rfl ?_
      refine v_ca rfl ?_
      refine c_noCrier hI.1.2.1 (show S.2.1 ≤ 6 by omega) (fun z => absurd z hx) (fun _ => ?_)
      refine v_go rfl ?_
      refine v_bF rfl (by decide) ?_
      exact v_go rfl (v_rt rfl trivial (h _ (frM.refl _) hI))
end
section
/-! ===== kinds, paces, starts ===== -/
abbrev RD : Type := Nat × (Nat → Nat) × (Nat → Nat)
def p_so (S : SH) (rd : RD) : Nat → Bool
  | 0 => true
  | x + 1 => p_so S rd x && decide (p_wet S (rd.2.1 x) S.1 = rd.2.2 x)
theorem p_so_pre (S : SH) (rd : RD) (x : Nat) (h : p_so S rd x = false) : ∀ m, p_so S rd (x + m) = false
  | 0 => h
  | m + 1 => by
    show (p_so S rd (x + m) && _) = false
    rw [p_so_pre S rd x h m]
    rfl
def p_fit (S : SH) (rd : RD) (i c lo : Nat) : Nat → Int32
  | 0 => 0
  | m + 1 => p_fit S rd i c lo m ||| (if p_so (setT S i c (lo + m)) rd rd.1 = true then (1 : Int32) <<< (nI (lo + m) &&& 31) else (0 : Int32))
def okR (rd : RD) : Prop := rd.1 ≤ 8 ∧ ∀ x, x < rd.1 → rd.2.1 x < 4 ∧ rd.2.2 x ≤ 120
def relRC (rd : RD) (D : m_D) : Prop := D 0 7 = nI rd.1 ∧ ∀ x, x < rd.1 → D 32 x = nI (rd.2.1 x) ∧ D 33 x = nI (rd.2.2 x)
def relRM (rd : RD) (D : m_D) : Prop := D 34 26 = nI rd.1 ∧ ∀ x, x < rd.1 → D 54 x = nI (rd.2.1 x) ∧ D 55 x = nI (rd.2.2 x)
theorem c_allSo {L d : Nat} {S : SH} {rd : RD} {D : m_D} {Q : m_K} (ho : okS S) (hR : okR rd) (hr : relRC rd D) (hF : ∀ f, f < 4 → D 20 f = nI (p_wet S f S.1)) (h1 : p_so S rd rd.1 = true → Q (some (.int 1)) D) (h0 : p_so S rd rd.1 = false → Q (some (.int 0)) D) : m_call L (d + 1) 62 [.ref 0] D Q := by
  obtain ⟨r7, r32⟩ := hr
  obtain ⟨h8, hb⟩ := hR
  have key : ∀ (m x : Nat), x + m = rd.1 → p_so S rd x = true → m_V L d Q t_X4_allReadingsAreSo 2 (2, [some (.ref 0), some (.int (nI x))], [], D) := by
    intro m
    induction m with
    | zero =>
      intro x hm hs
      have hm : x = rd.1 := by omega
      subst hm
      refine v_go rfl ?_
      rw [r7]
      refine v_bT rfl (Int32.le_refl _) ?_
      exact v_go rfl (v_rt rfl (Or.inr rfl) (h1 hs))
    | succ m ih =>
      intro x hm hs
      have hin : vp_in (nI x) 8 := vp_in_nI (by omega) (by omega)
      have hcl : (nI x).toNatClampNeg = x := nI_clamp (by omega)
      obtain ⟨b1, b2⟩ := hb x (by omega)
      obtain ⟨q1, q2⟩ := r32 x (by omega)
      have hin2 : vp_in (nI (rd.2.1 x)) 4 := vp_in_nI b1 (by omega)
      have hcl2 : (nI (rd.2.1 x)).toNatClampNeg = rd.2.1 x := nI_clamp (by omega)
      have h102 := p_wet_102 ho (rd.2.1 x)
      refine v_go rfl ?_
      rw [r7]
      refine v_bF rfl (nI_ge (by omega) (by omega)) ?_
      refine v_go rfl ?_
      refine v_sd rfl hin ?_
      rw [hcl, q1]
      refine v_sd rfl hin2 ?_
      rw [hcl2, hF _ b1]
      refine v_go rfl ?_
      refine v_sd rfl hin ?_
      rw [hcl, q2]
      by_cases g : p_wet S (rd.2.1 x) S.1 = rd.2.2 x
      · refine v_bT rfl ((nI_eq (by omega) (by omega)).mpr g) ?_
        have ih := ih (x + 1) (by omega) (by
          show (p_so S rd x && decide (p_wet S (rd.2.1 x) S.1 = rd.2.2 x)) = true
          rw [hs, decide_eq_true g]
          rfl)
        rw [← nI_1] at ih
        exact v_run 2 rfl ih
      · refine v_bF rfl (fun z => g ((nI_eq (by omega) (by omega)).mp z)) ?_
        have e0 : p_so S rd (x + 1) = false := by
          show (p_so S rd x && decide (p_wet S (rd.2.1 x) S.1 = rd.2.2 x)) = false
          rw [hs, decide_eq_false g]
          rfl
        have e1 := p_so_pre S rd (x + 1) e0 m
        rw [show x + 1 + m = rd.1 by omega] at e1
        exact v_go rfl (v_rt rfl (Or.inl rfl) (h0 e1))
  refine v_in (tb' := t_X4_allReadingsAreSo) (rk' := 2) rfl rfl rfl ?_
  exact v_run 2 rfl (key rd.1 0 (by omega) rfl)
theorem c_areSo {L d : Nat} {S : SH} {rd : RD} {D : m_D} {Q : m_K} (hr : relM D S) (ho : okS S) (hR : okR rd) (hrr : relRM rd D) (h1 : ∀ D', m_fM z_R [22] D D' → p_so S rd rd.1 = true → Q (some (.int 1)) D') (h0 : ∀ D', m_fM z_R [22] D D' → p_so S rd rd.1 = false → Q (some (.int 0)) D') : m_call L (d + 4) 146 [.ref 34] D Q := by
  refine v_in (tb' := t_X5_areSo) (rk' := 2) rfl rfl rfl ?_
  refine v_go rfl ?_
  refine v_ca rfl ?_
  refine c_rains hr ho (fun D3 hf3 hF => ?_)
  obtain ⟨r7, r32⟩ := hrr
  have r7 : D3 34 26 = nI rd.1 := by rw [hf3.2 26 (by simp)]; exact r7
  have e54 : D3 54 = D 54 := hf3.1 54 (by simp) (by decide)
  have e55 : D3 55 = D 55 := hf3.1 55 (by simp) (by decide)
  have r32 : ∀ x, x < rd.1 → D3 54 x = nI (rd.2.1 x) ∧ D3 55 x = nI (rd.2.2 x) := fun x hx => by rw [e54, e55]; exact r32 x hx
  obtain ⟨h8, hb⟩ := hR
  have key : ∀ (m x : Nat), x + m = rd.1 → m_V L (d + 3) Q t_X5_areSo 2 (8, [some (.ref 34), some (.int (if p_so S rd x = true then 1 else 0)), some (.int (nI x))], [], D3) := by
    intro m
    induction m with
    | zero =>
      intro x hm
      have hm : x = rd.1 := by omega
      subst hm
      refine v_go rfl ?_
      rw [r7]
      refine v_bT rfl (Int32.le_refl _) ?_
      cases hs : p_so S rd rd.1 with
      | true => exact v_go rfl (v_rt rfl (Or.inr rfl) (h1 D3 hf3 hs))
      | false => exact v_go rfl (v_rt rfl (Or.inl rfl) (h0 D3 hf3 hs))
    | succ m ih =>
      intro x hm
      have hin : vp_in (nI x) 8 := vp_in_nI (by omega) (by omega)
      have hcl : (nI x).toNatClampNeg = x := nI_clamp (by omega)
      obtain ⟨b1, b2⟩ := hb x (by omega)
      obtain ⟨q1, q2⟩ := r32 x (by omega)
      have hin2 : vp_in (nI (rd.2.1 x)) 4 := vp_in_nI b1 (by omega)
      have hcl2 : (nI (rd.2.1 x)).toNatClampNeg = rd.2.1 x := nI_clamp (by omega)
      have h102 := p_wet_102 ho (rd.2.1 x)
      have ih := ih (x + 1) (by omega)
      rw [← nI_1] at ih
      have e : p_so S rd (x + 1) = (p_so S rd x && decide (p_wet S (rd.2.1 x) S.1 = rd.2.2 x)) := rfl
      rw [e] at ih
      refine v_go rfl ?_
      rw [r7]
      refine v_bF rfl (nI_ge (by omega) (by omega)) ?_
      refine v_go rfl ?_
      cases hs : p_so S rd x with
      | false =>
        rw [hs] at ih
        refine v_bT rfl rfl ?_
        exact v_run 4 rfl ih
      | true =>
        rw [hs] at ih
        refine v_bF rfl (by decide) ?_
        refine v_go rfl ?_
        refine v_sd rfl hin ?_
        rw [hcl, q1]
        refine v_sd rfl hin2 ?_
        rw [hcl2, hF.2.2.1 _ b1]
        refine v_go rfl ?_
        refine v_sd rfl hin ?_
        rw [hcl, q2]
        by_cases g : p_wet S (rd.2.1 x) S.1 = rd.2.2 x
        · rw [decide_eq_true g] at ih
          refine v_bF rfl (fun z => z ((nI_eq (by omega) (by omega)).mpr g)) ?_
          exact v_run 5 rfl ih
        · rw [decide_eq_false g] at ih
          refine v_bT rfl (fun z => g ((nI_eq (by omega) (by omega)).mp z)) ?_
          exact v_run 4 rfl ih
  exact v_run 4 rfl (key rd.1 0 (by omega))
theorem c_fitting {L d i c lo m : Nat} {S : SH} {rd : RD} {D : m_D} {Q : m_K} (hi : i = 2 ∨ i = 3 ∨ i = 4) (hr : relC 1 D S) (ho : okS S) (hc : c < S.2.1) (hm : m ≠ 0) (hb : lo + m ≤ 10) (hok : ∀ j, j < m → okT S i (lo + j)) (hR : okR rd) (hrr : relRC rd D) (h : ∀ D', m_fr z_FT D D' → Q (some (.int (p_fit S rd i c lo m))) D') : m_call L (d + 6) 61 [.ref 0, .int (nI c), .ref (8 + 1 + i), .int (nI lo), .int (nI (lo + m - 1))] D Q := by
  have hn6 := ho.1
  have hk3 := ho.2.1
  have hin : vp_in (nI c) 3 := vp_in_nI (by omega) (by omega)
  have hcl : (nI c).toNatClampNeg = c := nI_clamp (by omega)
  have st : ∀ (D1 : m_D) (v a b e : Int32), m_V L (d + 5) Q t_X4_fitting 1 (29, [some (.ref 0), some (.int (nI c)), some (.ref (8 + 1 + i)), some (.int a), some (.int b), some (.int e), some (.int v)], [], m_up D1 (8 + 1 + i) c v) → m_V L (d + 5) Q t_X4_fitting 1 (24, [some (.ref 0), some (.int (nI c)), some (.ref (8 + 1 + i)), some (.int a), some (.int b), some (.int e), some (.int v)], [], D1) := by
    intro D1 v a b e hk
    rcases hi with rfl | rfl | rfl
    · show m_V L (d + 5) Q t_X4_fitting 1 (24, [some (.ref 0), some (.int (nI c)), some (.ref 11), some (.int a), some (.int b), some (.int e), some (.int v)], [], D1)
      refine v_go rfl ?_
      refine v_sd rfl hin ?_
      rw [hcl]
      exact hk
    · show m_V L (d + 5) Q t_X4_fitting 1 (24, [some (.ref 0), some (.int (nI c)), some (.ref 12), some (.int a), some (.int b), some (.int e), some (.int v)], [], D1)
      refine v_go rfl ?_
      refine v_sd rfl hin ?_
      rw [hcl]
      exact hk
    · show m_V L (d + 5) Q t_X4_fitting 1 (24, [some (.ref 0), some (.int (nI c)), some (.ref 13), some (.int a), some (.int b), some (.int e), some (.int v)], [], D1)
      refine v_go rfl ?_
      refine v_sd rfl hin ?_
      rw [hcl]
      exact hk
  have key : ∀ (q j : Nat) (D1 : m_D), j + q = m → m_fr z_FT D D1 → trT i c S D1 → m_V L (d + 5) Q t_X4_fitting 1 (17, [some (.ref 0), some (.int (nI c)), some (.ref (8 + 1 + i)), some (.int (nI lo)), some (.int (nI (lo + m - 1))), some (.int (p_fit S rd i c lo j)), some (.int (nI (lo + j)))], [], D1) := by
    intro q
    induction q with
    | zero =>
      intro j D1 hq hf ht
      have hq : j = m := by omega
      subst hq
      refine v_go rfl ?_
      refine v_bT rfl (nI_lt (by omega) (by omega)) ?_
      exact v_go rfl (v_rt rfl trivial (h D1 hf))
    | succ q ih =>
      intro j D1 hq hf ht
      have hr2 := trT_up (by omega) ht (lo + j)
      have hf2 : m_fr z_FT D (m_up D1 (8 + 1 + i) c (nI (lo + j))) := hf.up (by
        simp only [z_FT, List.mem_cons, List.not_mem_nil, or_false]
        omega)
      have ho2 : okS (setT S i c (lo + j)) := okS_setT ho (hok j (by omega))
      refine v_go rfl ?_
      refine v_bF rfl (nI_nlt (by omega) (by omega)) ?_
      refine st D1 _ _ _ _ ?_
      refine v_go rfl ?_
      refine v_ca rfl ?_
      refine c_workOut (Or.inr rfl) hr2 ho2 (fun D3 hf3 hF => ?_)
      have hf4 := hf2.trans (fF hf3)
      have ih := ih (j + 1) D3 (by omega) hf4 (trT_F hf3 hr2)
      rw [← Nat.add_assoc, ← nI_1] at ih
      have e : p_fit S rd i c lo (j + 1) = p_fit S rd i c lo j ||| (if p_so (setT S i c (lo + j)) rd rd.1 = true then (1 : Int32) <<< (nI (lo + j) &&& 31) else (0 : Int32)) := rfl
      rw [e] at ih
      have hrr3 : relRC rd D3 := by
        unfold relRC
        rw [hf4 0 (by simp), hf4 32 (by simp), hf4 33 (by simp)]
        exact hrr
      refine v_go rfl ?_
      refine v_ca rfl ?_
      refine c_allSo ho2 hR hrr3 hF.2.2.1 (fun z => ?_) (fun z => ?_)
      · rw [z, if_pos rfl] at ih
        refine v_go rfl ?_
        refine v_bF rfl (by decide) ?_
        exact v_run 8 rfl ih
      · rw [z, if_neg (by decide)] at ih
        refine v_go rfl ?_
        refine v_bT rfl rfl ?_
        exact v_run 5 rfl ih
  refine v_in (tb' := t_X4_fitting) (rk' := 1) rfl rfl rfl ?_
  refine v_go rfl ?_
  refine v_ca rfl ?_
  refine c_become hr ho (fun D1 hf1 hr1 => ?_)
  exact v_run 4 rfl (key m 0 D1 (by omega) (fT hf1) (trT_0 hr1))
abbrev z_MU : List Nat := [35, 36, 37, 38, 39, 40, 46, 47, 48, 49, 50, 51, 52, 53]
theorem InvM_MU {Z : ZS} {D D' : m_D} (h : InvM Z D) (hr : relM D' Z.1) (hf : m_fM z_MU [22] D D') : InvM Z D' := by
  obtain ⟨S, rd, sh, tr, fl⟩ := Z
  exact InvM_S h hr (fun a ha => hf.1 a (by
    simp only [z_MU, List.mem_cons, List.not_mem_nil, or_false]
    omega) (by omega)) (fun j hj => hf.2 j (by
    simp only [List.mem_cons, List.not_mem_nil, or_false] at hj ⊢
    omega))
theorem frM_MU {D D' : m_D} (hf : m_fM z_MU [22] D D') : frM D D' := frM.of hf (by decide)
theorem muR {D D' : m_D} (hf : m_fM z_R [22] D D') : m_fM z_MU [22] D D' := hf.sub (by simp) (by simp)
theorem y_kinds {L c : Nat} {S : SH} {rd : RD} {D : m_D} {Q : m_K} (hr : relM D S) (ho : okS S) (hc : c < S.2.1) (hR : okR rd) (hrr : relRM rd D) (h : ∀ D', m_fM z_MU [22] D D' → relM D' S → Q (some (.int (p_fit S rd 2 c 0 3))) D') : m_call L 8 147 [.ref 34, .int (nI c)] D Q := by
  have hn6 := ho.1
  have hk3 := ho.2.1
  have hin : vp_in (nI c) 3 := vp_in_nI (by omega) (by omega)
  have hcl : (nI c).toNatClampNeg = c := nI_clamp (by omega)
  have rS : D 37 c = nI (S.2.2.1 2 c) := (hr.2.2.2.1 c hc).1
  have r1 : D 34 1 = nI S.1 := hr.1
  have key : ∀ (q j : Nat) (D1 : m_D), j + q = 3 → m_fM z_MU [22] D D1 → trU 2 c S D1 → m_V L 7 Q t_X5_kinds 1 (22, [some (.ref 34), some (.int (nI c)), some (.int (nI (S.2.2.1 2 c))), some (.int (p_fit S rd 2 c 0 j)), some (.int (nI (0 + j)))], [], D1) := by
    intro q
    induction q with
    | zero =>
      intro j D1 hq hf ht
      have hq : j = 3 := by omega
      subst hq
      have r1 : D1 34 1 = nI S.1 := by rw [hf.2 1 (by simp)]; exact r1
      have hr2 := trU_up (by omega) ht (S.2.2.1 2 c)
      rw [setT_self] at hr2
      have hf2 : m_fM z_MU [22] D (m_up D1 37 c (nI (S.2.2.1 2 c))) := hf.up (by simp) (by decide)
      have h := h _ hf2 hr2
      refine v_go rfl ?_
      refine v_bT rfl (by decide) ?_
      refine v_go rfl ?_
      refine v_sd rfl hin ?_
      rw [hcl]
      exact v_go rfl (v_rt rfl trivial h)
    | succ q ih =>
      intro j D1 hq hf ht
      have r1 : D1 34 1 = nI S.1 := by rw [hf.2 1 (by simp)]; exact r1
      have hr2 := trU_up (by omega) ht (0 + j)
      have hf2 : m_fM z_MU [22] D (m_up D1 37 c (nI (0 + j))) := hf.up (by simp) (by decide)
      have ho2 : okS (setT S 2 c (0 + j)) := okS_setT ho ⟨fun z => (by omega), fun z => (by omega), fun z => (by omega), fun z => (by omega), fun z => (by omega)⟩
      have hrr2 : relRM rd (m_up D1 37 c (nI (0 + j))) := by
        unfold relRM
        rw [hf2.2 26 (by simp), hf2.1 54 (by simp) (by decide), hf2.1 55 (by simp) (by decide)]
        exact hrr
      refine v_go rfl ?_
      refine v_bF rfl (nI_ge (b := 3) (by omega) (by omega)) ?_
      refine v_go rfl ?_
      refine v_sd rfl hin ?_
      rw [hcl]
      have e : p_fit S rd 2 c 0 (j + 1) = p_fit S rd 2 c 0 j ||| (if p_so (setT S 2 c (0 + j)) rd rd.1 = true then (1 : Int32) <<< (nI (0 + j) &&& 31) else (0 : Int32)) := rfl
      refine v_go rfl ?_
      refine v_ca rfl ?_
      refine c_areSo hr2 ho2 hR hrr2 (fun D3 hf3 z => ?_) (fun D3 hf3 z => ?_)
      · have ih := ih (j + 1) D3 (by omega) (hf2.trans (muR hf3)) (trU_R hf3 hr2)
        rw [← Nat.add_assoc, ← nI_1, e, z, if_pos rfl] at ih
        refine v_go rfl ?_
        refine v_bF rfl (by decide) ?_
        exact v_run 8 rfl ih
      · have ih := ih (j + 1) D3 (by omega) (hf2.trans (muR hf3)) (trU_R hf3 hr2)
        rw [← Nat.add_assoc, ← nI_1, e, z, if_neg (by decide)] at ih
        refine v_go rfl ?_
        refine v_bT rfl rfl ?_
        exact v_run 5 rfl ih
  refine v_in (tb' := t_X5_kinds) (rk' := 1) rfl rfl rfl ?_
  refine v_go rfl ?_
  refine v_ca rfl ?_
  refine c_noCrier hr.2.1 (by omega) (fun _ => ?_) (fun z => absurd (vp_in_nI hc (by omega)) z)
  refine v_go rfl ?_
  refine v_bT rfl rfl ?_
  refine v_go rfl ?_
  refine v_sd rfl hin ?_
  rw [hcl, rS]
  exact v_run 5 rfl (key 3 0 D (by omega) (m_fM.refl _ _ _) (trU_0 hr))
theorem s_kinds (x : Int32) : StepI 58 147 [.int x] := by
  intro L Z hz
  obtain ⟨S, rd, sh, tr, fl⟩ := Z
  have hoS : okS S := hz.1
  have hn6 : S.1 ≤ 6 := hoS.1
  have hnk : S.1 = 0 ↔ S.2.1 = 0 := hz.2.1
  have hk3 : S.2.1 ≤ 3 := hoS.2.1
  have hR : okR rd := ⟨hz.2.2.1, hz.2.2.2.1⟩
  by_cases hx : vp_in x S.2.1
  · obtain ⟨c, hc, rfl⟩ := vp_in_of hx (by omega)
    have hn : S.1 ≠ 0 := fun z => by
      have := hnk.mp z
      omega
    refine ⟨p_fit S rd 2 c 0 3, (S, rd, sh, tr, fl), hz, fun D Q hI h => ?_, fun D Q hI h => ?_⟩
    · have r1 : D 1 0 = nI S.1 := hI.1.1
      have hfit := c_fitting (L := L) (d := 1) (i := 2) (c := c) (lo := 0) (m := 3) (S := S) (rd := rd) (D := D) (Q := fun r D' => m_V L 7 Q t_X4_kinds 1 (m_beh 22 [some (.ref 0), some (.int (nI c))] [] r D')) (by omega) hI.1 hoS hc (by omega) (by omega) (fun j hj => ⟨fun z => (by omega), fun z => (by omega), fun z => (by omega), fun z => (by omega), fun z => (by omega)⟩) hR ⟨hI.2.1, hI.2.2.1⟩ (fun D' hf => v_go rfl (v_rt rfl trivial (h D' (frC_FT hf) (InvC_FT hI hf))))
      refine v_in (tb' := t_X4_kinds) (rk' := 1) rfl rfl rfl ?_
      refine v_go rfl ?_
      refine v_ca rfl ?_
      refine c_isCrier hI.1.2.1 (show S.2.1 ≤ 6 by omega) (fun _ => ?_) (fun z => absurd hx z)
      refine v_go rfl ?_
      refine v_bF rfl (by decide) ?_
      refine v_go rfl ?_
      refine v_ca rfl ?_
      exact hfit
    · exact y_kinds hI.1 hoS hc hR ⟨hI.2.1, hI.2.2.1⟩ (fun D' hf hr => h D' (frM_MU hf) (InvM_MU hI hr hf))
  · refine ⟨-1, (S, rd, sh, tr, fl), hz, fun D Q hI h => ?_, fun D Q hI h => ?_⟩
    · refine v_in (tb' := t_X4_kinds) (rk' := 1) rfl rfl rfl ?_
      refine v_go rfl ?_
      refine v_ca rfl ?_
      refine c_isCrier hI.1.2.1 (show S.2.1 ≤ 6 by omega) (fun z => absurd z hx) (fun _ => ?_)
      refine v_go rfl ?_
      refine v_bT rfl rfl ?_
      exact v_go rfl (v_rt rfl trivial (h _ (frC.refl _) hI))
    · refine v_in (tb' := t_X5_kinds) (rk' := 1) rfl rfl rfl ?_
      refine v_go rfl ?_
      refine v_ca rfl ?_
      refine c_noCrier hI.1.2.1 (show S.2.1 ≤ 6 by omega) (fun z => absurd z hx) (fun _ => ?_)
      refine v_go rfl ?_
      refine v_bF rfl (by decide) ?_
      exact v_go rfl (v_rt rfl trivial (h _ (frM.refl _) hI))
theorem y_paces {L c : Nat} {S : SH} {rd : RD} {D : m_D} {Q : m_K} (hr : relM D S) (ho : okS S) (hc : c < S.2.1) (hR : okR rd) (hrr : relRM rd D) (h : ∀ D', m_fM z_MU [22] D D' → relM D' S → Q (some (.int (p_fit S rd 3 c 1 3))) D') : m_call L 8 148 [.ref 34, .int (nI c)] D Q := by
  have hn6 := ho.1
  have hk3 := ho.2.1
  have hin : vp_in (nI c) 3 := vp_in_nI (by omega) (by omega)
  have hcl : (nI c).toNatClampNeg = c := nI_clamp (by omega)
  have rS : D 38 c = nI (S.2.2.1 3 c) := (hr.2.2.2.1 c hc).2.1
  have r1 : D 34 1 = nI S.1 := hr.1
  have key : ∀ (q j : Nat) (D1 : m_D), j + q = 3 → m_fM z_MU [22] D D1 → trU 3 c S D1 → m_V L 7 Q t_X5_paces 1 (22, [some (.ref 34), some (.int (nI c)), some (.int (nI (S.2.2.1 3 c))), some (.int (p_fit S rd 3 c 1 j)), some (.int (nI (1 + j)))], [], D1) := by
    intro q
    induction q with
    | zero =>
      intro j D1 hq hf ht
      have hq : j = 3 := by omega
      subst hq
      have r1 : D1 34 1 = nI S.1 := by rw [hf.2 1 (by simp)]; exact r1
      have hr2 := trU_up (by omega) ht (S.2.2.1 3 c)
      rw [setT_self] at hr2
      have hf2 : m_fM z_MU [22] D (m_up D1 38 c (nI (S.2.2.1 3 c))) := hf.up (by simp) (by decide)
      have h := h _ hf2 hr2
      refine v_go rfl ?_
      refine v_bT rfl (by decide) ?_
      refine v_go rfl ?_
      refine v_sd rfl hin ?_
      rw [hcl]
      exact v_go rfl (v_rt rfl trivial h)
    | succ q ih =>
      intro j D1 hq hf ht
      have r1 : D1 34 1 = nI S.1 := by rw [hf.2 1 (by simp)]; exact r1
      have hr2 := trU_up (by omega) ht (1 + j)
      have hf2 : m_fM z_MU [22] D (m_up D1 38 c (nI (1 + j))) := hf.up (by simp) (by decide)
      have ho2 : okS (setT S 3 c (1 + j)) := okS_setT ho ⟨fun z => (by omega), fun z => (by omega), fun z => (by omega), fun z => (by omega), fun z => (by omega)⟩
      have hrr2 : relRM rd (m_up D1 38 c (nI (1 + j))) := by
        unfold relRM
        rw [hf2.2 26 (by simp), hf2.1 54 (by simp) (by decide), hf2.1 55 (by simp) (by decide)]
        exact hrr
      refine v_go rfl ?_
      refine v_bF rfl (nI_ge (b := 4) (by omega) (by omega)) ?_
      refine v_go rfl ?_
      refine v_sd rfl hin ?_
      rw [hcl]
      have e : p_fit S rd 3 c 1 (j + 1) = p_fit S rd 3 c 1 j ||| (if p_so (setT S 3 c (1 + j)) rd rd.1 = true then (1 : Int32) <<< (nI (1 + j) &&& 31) else (0 : Int32)) := rfl
      refine v_go rfl ?_
      refine v_ca rfl ?_
      refine c_areSo hr2 ho2 hR hrr2 (fun D3 hf3 z => ?_) (fun D3 hf3 z => ?_)
      · have ih := ih (j + 1) D3 (by omega) (hf2.trans (muR hf3)) (trU_R hf3 hr2)
        rw [← Nat.add_assoc, ← nI_1, e, z, if_pos rfl] at ih
        refine v_go rfl ?_
        refine v_bF rfl (by decide) ?_
        exact v_run 8 rfl ih
      · have ih := ih (j + 1) D3 (by omega) (hf2.trans (muR hf3)) (trU_R hf3 hr2)
        rw [← Nat.add_assoc, ← nI_1, e, z, if_neg (by decide)] at ih
        refine v_go rfl ?_
        refine v_bT rfl rfl ?_
        exact v_run 5 rfl ih
  refine v_in (tb' := t_X5_paces) (rk' := 1) rfl rfl rfl ?_
  refine v_go rfl ?_
  refine v_ca rfl ?_
  refine c_noCrier hr.2.1 (by omega) (fun _ => ?_) (fun z => absurd (vp_in_nI hc (by omega)) z)
  refine v_go rfl ?_
  refine v_bT rfl rfl ?_
  refine v_go rfl ?_
  refine v_sd rfl hin ?_
  rw [hcl, rS]
  exact v_run 5 rfl (key 3 0 D (by omega) (m_fM.refl _ _ _) (trU_0 hr))
theorem s_paces (x : Int32) : StepI 59 148 [.int x] := by
  intro L Z hz
  obtain ⟨S, rd, sh, tr, fl⟩ := Z
  have hoS : okS S := hz.1
  have hn6 : S.1 ≤ 6 := hoS.1
  have hnk : S.1 = 0 ↔ S.2.1 = 0 := hz.2.1
  have hk3 : S.2.1 ≤ 3 := hoS.2.1
  have hR : okR rd := ⟨hz.2.2.1, hz.2.2.2.1⟩
  by_cases hx : vp_in x S.2.1
  · obtain ⟨c, hc, rfl⟩ := vp_in_of hx (by omega)
    have hn : S.1 ≠ 0 := fun z => by
      have := hnk.mp z
      omega
    refine ⟨p_fit S rd 3 c 1 3, (S, rd, sh, tr, fl), hz, fun D Q hI h => ?_, fun D Q hI h => ?_⟩
    · have r1 : D 1 0 = nI S.1 := hI.1.1
      have hfit := c_fitting (L := L) (d := 1) (i := 3) (c := c) (lo := 1) (m := 3) (S := S) (rd := rd) (D := D) (Q := fun r D' => m_V L 7 Q t_X4_paces 1 (m_beh 22 [some (.ref 0), some (.int (nI c))] [] r D')) (by omega) hI.1 hoS hc (by omega) (by omega) (fun j hj => ⟨fun z => (by omega), fun z => (by omega), fun z => (by omega), fun z => (by omega), fun z => (by omega)⟩) hR ⟨hI.2.1, hI.2.2.1⟩ (fun D' hf => v_go rfl (v_rt rfl trivial (h D' (frC_FT hf) (InvC_FT hI hf))))
      refine v_in (tb' := t_X4_paces) (rk' := 1) rfl rfl rfl ?_
      refine v_go rfl ?_
      refine v_ca rfl ?_
      refine c_isCrier hI.1.2.1 (show S.2.1 ≤ 6 by omega) (fun _ => ?_) (fun z => absurd hx z)
      refine v_go rfl ?_
      refine v_bF rfl (by decide) ?_
      refine v_go rfl ?_
      refine v_ca rfl ?_
      exact hfit
    · exact y_paces hI.1 hoS hc hR ⟨hI.2.1, hI.2.2.1⟩ (fun D' hf hr => h D' (frM_MU hf) (InvM_MU hI hr hf))
  · refine ⟨-1, (S, rd, sh, tr, fl), hz, fun D Q hI h => ?_, fun D Q hI h => ?_⟩
    · refine v_in (tb' := t_X4_paces) (rk' := 1) rfl rfl rfl ?_
      refine v_go rfl ?_
      refine v_ca rfl ?_
      refine c_isCrier hI.1.2.1 (show S.2.1 ≤ 6 by omega) (fun z => absurd z hx) (fun _ => ?_)
      refine v_go rfl ?_
      refine v_bT rfl rfl ?_
      exact v_go rfl (v_rt rfl trivial (h _ (frC.refl _) hI))
    · refine v_in (tb' := t_X5_paces) (rk' := 1) rfl rfl rfl ?_
      refine v_go rfl ?_
      refine v_ca rfl ?_
      refine c_noCrier hI.1.2.1 (show S.2.1 ≤ 6 by omega) (fun z => absurd z hx) (fun _ => ?_)
      refine v_go rfl ?_
      refine v_bF rfl (by decide) ?_
      exact v_go rfl (v_rt rfl trivial (h _ (frM.refl _) hI))
theorem y_starts {L c : Nat} {S : SH} {rd : RD} {D : m_D} {Q : m_K} (hr : relM D S) (ho : okS S) (hc : c < S.2.1) (hR : okR rd) (hrr : relRM rd D) (h : ∀ D', m_fM z_MU [22] D D' → relM D' S → Q (some (.int (p_fit S rd 4 c 0 S.1))) D') : m_call L 8 149 [.ref 34, .int (nI c)] D Q := by
  have hn6 := ho.1
  have hk3 := ho.2.1
  have hin : vp_in (nI c) 3 := vp_in_nI (by omega) (by omega)
  have hcl : (nI c).toNatClampNeg = c := nI_clamp (by omega)
  have rS : D 39 c = nI (S.2.2.1 4 c) := (hr.2.2.2.1 c hc).2.2
  have r1 : D 34 1 = nI S.1 := hr.1
  have key : ∀ (q j : Nat) (D1 : m_D), j + q = S.1 → m_fM z_MU [22] D D1 → trU 4 c S D1 → m_V L 7 Q t_X5_starts 1 (22, [some (.ref 34), some (.int (nI c)), some (.int (nI (S.2.2.1 4 c))), some (.int (p_fit S rd 4 c 0 j)), some (.int (nI (0 + j)))], [], D1) := by
    intro q
    induction q with
    | zero =>
      intro j D1 hq hf ht
      have hq : j = S.1 := by omega
      subst hq
      have r1 : D1 34 1 = nI S.1 := by rw [hf.2 1 (by simp)]; exact r1
      have hr2 := trU_up (by omega) ht (S.2.2.1 4 c)
      rw [setT_self] at hr2
      have hf2 : m_fM z_MU [22] D (m_up D1 39 c (nI (S.2.2.1 4 c))) := hf.up (by simp) (by decide)
      have h := h _ hf2 hr2
      refine v_go rfl ?_
      rw [r1]
      refine v_bT rfl (by rw [Nat.zero_add]; exact Int32.le_refl _) ?_
      refine v_go rfl ?_
      refine v_sd rfl hin ?_
      rw [hcl]
      exact v_go rfl (v_rt rfl trivial h)
    | succ q ih =>
      intro j D1 hq hf ht
      have r1 : D1 34 1 = nI S.1 := by rw [hf.2 1 (by simp)]; exact r1
      have hr2 := trU_up (by omega) ht (0 + j)
      have hf2 : m_fM z_MU [22] D (m_up D1 39 c (nI (0 + j))) := hf.up (by simp) (by decide)
      have ho2 : okS (setT S 4 c (0 + j)) := okS_setT ho ⟨fun z => (by omega), fun z => (by omega), fun z => (by omega), fun z => (by omega), fun z => (by omega)⟩
      have hrr2 : relRM rd (m_up D1 39 c (nI (0 + j))) := by
        unfold relRM
        rw [hf2.2 26 (by simp), hf2.1 54 (by simp) (by decide), hf2.1 55 (by simp) (by decide)]
        exact hrr
      refine v_go rfl ?_
      rw [r1]
      refine v_bF rfl (nI_ge (by omega) (by omega)) ?_
      refine v_go rfl ?_
      refine v_sd rfl hin ?_
      rw [hcl]
      have e : p_fit S rd 4 c 0 (j + 1) = p_fit S rd 4 c 0 j ||| (if p_so (setT S 4 c (0 + j)) rd rd.1 = true then (1 : Int32) <<< (nI (0 + j) &&& 31) else (0 : Int32)) := rfl
      refine v_go rfl ?_
      refine v_ca rfl ?_
      refine c_areSo hr2 ho2 hR hrr2 (fun D3 hf3 z => ?_) (fun D3 hf3 z => ?_)
      · have ih := ih (j + 1) D3 (by omega) (hf2.trans (muR hf3)) (trU_R hf3 hr2)
        rw [← Nat.add_assoc, ← nI_1, e, z, if_pos rfl] at ih
        refine v_go rfl ?_
        refine v_bF rfl (by decide) ?_
        exact v_run 8 rfl ih
      · have ih := ih (j + 1) D3 (by omega) (hf2.trans (muR hf3)) (trU_R hf3 hr2)
        rw [← Nat.add_assoc, ← nI_1, e, z, if_neg (by decide)] at ih
        refine v_go rfl ?_
        refine v_bT rfl rfl ?_
        exact v_run 5 rfl ih
  refine v_in (tb' := t_X5_starts) (rk' := 1) rfl rfl rfl ?_
  refine v_go rfl ?_
  refine v_ca rfl ?_
  refine c_noCrier hr.2.1 (by omega) (fun _ => ?_) (fun z => absurd (vp_in_nI hc (by omega)) z)
  refine v_go rfl ?_
  refine v_bT rfl rfl ?_
  refine v_go rfl ?_
  refine v_sd rfl hin ?_
  rw [hcl, rS]
  exact v_run 5 rfl (key S.1 0 D (by omega) (m_fM.refl _ _ _) (trU_0 hr))
theorem s_starts (x : Int32) : StepI 60 149 [.int x] := by
  intro L Z hz
  obtain ⟨S, rd, sh, tr, fl⟩ := Z
  have hoS : okS S := hz.1
  have hn6 : S.1 ≤ 6 := hoS.1
  have hnk : S.1 = 0 ↔ S.2.1 = 0 := hz.2.1
  have hk3 : S.2.1 ≤ 3 := hoS.2.1
  have hR : okR rd := ⟨hz.2.2.1, hz.2.2.2.1⟩
  by_cases hx : vp_in x S.2.1
  · obtain ⟨c, hc, rfl⟩ := vp_in_of hx (by omega)
    have hn : S.1 ≠ 0 := fun z => by
      have := hnk.mp z
      omega
    refine ⟨p_fit S rd 4 c 0 S.1, (S, rd, sh, tr, fl), hz, fun D Q hI h => ?_, fun D Q hI h => ?_⟩
    · have r1 : D 1 0 = nI S.1 := hI.1.1
      have hfit := c_fitting (L := L) (d := 1) (i := 4) (c := c) (lo := 0) (m := S.1) (S := S) (rd := rd) (D := D) (Q := fun r D' => m_V L 7 Q t_X4_starts 1 (m_beh 30 [some (.ref 0), some (.int (nI c))] [] r D')) (by omega) hI.1 hoS hc (by omega) (by omega) (fun j hj => ⟨fun z => (by omega), fun z => (by omega), fun z => (by omega), fun z => (by omega), fun z => (by omega)⟩) hR ⟨hI.2.1, hI.2.2.1⟩ (fun D' hf => v_go rfl (v_rt rfl trivial (h D' (frC_FT hf) (InvC_FT hI hf))))
      refine v_in (tb' := t_X4_starts) (rk' := 1) rfl rfl rfl ?_
      refine v_go rfl ?_
      refine v_ca rfl ?_
      refine c_isCrier hI.1.2.1 (show S.2.1 ≤ 6 by omega) (fun _ => ?_) (fun z => absurd hx z)
      refine v_go rfl ?_
      refine v_bF rfl (by decide) ?_
      refine v_go rfl ?_
      refine v_ca rfl ?_
      rw [r1, nI_p hn, show S.1 - 1 = 0 + S.1 - 1 by omega]
      exact hfit
    · exact y_starts hI.1 hoS hc hR ⟨hI.2.1, hI.2.2.1⟩ (fun D' hf hr => h D' (frM_MU hf) (InvM_MU hI hr hf))
  · refine ⟨-1, (S, rd, sh, tr, fl), hz, fun D Q hI h => ?_, fun D Q hI h => ?_⟩
    · refine v_in (tb' := t_X4_starts) (rk' := 1) rfl rfl rfl ?_
      refine v_go rfl ?_
      refine v_ca rfl ?_
      refine c_isCrier hI.1.2.1 (show S.2.1 ≤ 6 by omega) (fun z => absurd z hx) (fun _ => ?_)
      refine v_go rfl ?_
      refine v_bT rfl rfl ?_
      exact v_go rfl (v_rt rfl trivial (h _ (frC.refl _) hI))
    · refine v_in (tb' := t_X5_starts) (rk' := 1) rfl rfl rfl ?_
      refine v_go rfl ?_
      refine v_ca rfl ?_
      refine c_noCrier hI.1.2.1 (show S.2.1 ≤ 6 by omega) (fun z => absurd z hx) (fun _ => ?_)
      refine v_go rfl ?_
      refine v_bF rfl (by decide) ?_
      exact v_go rfl (v_rt rfl trivial (h _ (frM.refl _) hI))
end
section
/-! ===== saved ===== -/
def bitN (n i : Nat) : Bool := decide (n / 2 ^ i % 2 = 1)
theorem bitN4 : ∀ s, s < 16 → b_sum (bitN s) 4 = s := by decide +kernel
theorem bitN6 : ∀ s, s < 64 → b_sum (bitN s) 6 = s := by decide +kernel
def covS (S : SH) (s h : Nat) : SH := (S.1, S.2.1, S.2.2.1, fun f t => bitN s f && bitN h t)
theorem b_sum_0 : ∀ n, b_sum (fun _ => false) n = 0
  | 0 => rfl
  | n + 1 => by
    show b_sum (fun _ => false) n + (if false = true then 2 ^ n else 0) = 0
    rw [b_sum_0 n, if_neg (by decide)]
theorem cov_t {S : SH} {s h t : Nat} (hs : s < 16) : nI (b_sum (fun f => (covS S s h).2.2.2 f t) 4) = if bitN h t = true then nI s else 0 := by
  cases e : bitN h t with
  | true =>
    rw [if_pos rfl]
    have e2 : (fun f => (covS S s h).2.2.2 f t) = bitN s := by
      funext f
      show (bitN s f && bitN h t) = bitN s f
      rw [e, Bool.and_true]
    rw [e2, bitN4 s hs]
  | false =>
    rw [if_neg (by decide)]
    have e2 : (fun f => (covS S s h).2.2.2 f t) = fun _ => false := by
      funext f
      show (bitN s f && bitN h t) = false
      rw [e, Bool.and_false]
    rw [e2, b_sum_0]
    rfl
theorem cov_f {S : SH} {s h f : Nat} (hh : h < 64) : nI (b_sum (fun t => (covS S s h).2.2.2 f t) 6) = if bitN s f = true then nI h else 0 := by
  cases e : bitN s f with
  | true =>
    rw [if_pos rfl]
    have e2 : (fun t => (covS S s h).2.2.2 f t) = bitN h := by
      funext t
      show (bitN s f && bitN h t) = bitN h t
      rw [e, Bool.true_and]
    rw [e2, bitN6 h hh]
  | false =>
    rw [if_neg (by decide)]
    have e2 : (fun t => (covS S s h).2.2.2 f t) = fun _ => false := by
      funext t
      show (bitN s f && bitN h t) = false
      rw [e, Bool.false_and]
    rw [e2, b_sum_0]
    rfl
theorem bit_4 {s f : Nat} (hs : s < 16) (hf : f < 4) : (nI s >>> (nI f &&& 31)) &&& 1 = if bitN s f = true then 1 else 0 := by
  have h := b_bit4 (bitN s) hf
  rw [bitN4 s hs] at h
  exact h
theorem bit_6 {s f : Nat} (hs : s < 64) (hf : f < 6) : (nI s >>> (nI f &&& 31)) &&& 1 = if bitN s f = true then 1 else 0 := by
  have h := b_bit6 (bitN s) hf
  rw [bitN6 s hs] at h
  exact h
def trV (S : SH) (D : m_D) : Prop := ∃ cg, relC 8 D (S.1, S.2.1, S.2.2.1, cg)
def trW (S : SH) (D : m_D) : Prop := ∃ cg, relM D (S.1, S.2.1, S.2.2.1, cg)
theorem relC_cov {S : SH} {s h : Nat} {D D' : m_D} (hs : s < 16) (ht : trV S D) (hf : m_fr [14] D D') (hv : ∀ t, t < 6 → D' 14 t = if bitN h t = true then nI s else 0) : relC 8 D' (covS S s h) := by
  obtain ⟨cg, h1, h2, h3, h4, h5⟩ := ht
  have e : ∀ a, a ≠ 14 → D' a = D a := fun a ha => hf a (by simpa using ha)
  refine ⟨by rw [e 8 (by omega)]; exact h1, by rw [e 8 (by omega)]; exact h2, fun l hl => ?_, fun c hc => ?_, fun t ht => ?_⟩
  · rw [e (8 + 1) (by omega), e (8 + 2) (by omega)]
    exact h3 l hl
  · rw [e (8 + 3) (by omega), e (8 + 4) (by omega), e (8 + 5) (by omega)]
    exact h4 c hc
  · rw [cov_t hs]
    exact hv t ht
theorem relM_cov {S : SH} {s h : Nat} {D D' : m_D} (hh : h < 64) (ht : trW S D) (hf : m_fM [40] [] D D') (hv : ∀ f, f < 4 → D' 40 f = if bitN s f = true then nI h else 0) : relM D' (covS S s h) := by
  obtain ⟨cg, h1, h2, h3, h4, h5⟩ := ht
  have e : ∀ a, a ≠ 40 → a ≠ 34 → D' a = D a := fun a ha hb => hf.1 a (by simpa using ha) hb
  refine ⟨by rw [hf.2 1 (by simp)]; exact h1, by rw [hf.2 2 (by simp)]; exact h2, fun l hl => ?_, fun c hc => ?_, fun t ht => ?_⟩
  · rw [e 35 (by omega) (by omega), e 36 (by omega) (by omega)]
    exact h3 l hl
  · rw [e 37 (by omega) (by omega), e 38 (by omega) (by omega), e 39 (by omega) (by omega)]
    exact h4 c hc
  · rw [cov_f hh]
    exact hv t ht
def p_al (P : Nat → Bool) : Nat → Bool
  | 0 => true
  | f + 1 => p_al P f && P f
theorem p_al_pre (P : Nat → Bool) (x : Nat) (h : p_al P x = false) : ∀ m, p_al P (x + m) = false
  | 0 => h
  | m + 1 => by
    show (p_al P (x + m) && _) = false
    rw [p_al_pre P x h m]
    rfl
def p_dry (S : SH) (s v h f : Nat) : Bool := !bitN s f || decide (p_wet (covS S s h) f S.1 ≤ v)
def p_sv (S : SH) (s v h : Nat) : Bool := p_al (p_dry S s v h) 4
theorem okS_cov {S : SH} {s h : Nat} (ho : okS S) : okS (covS S s h) := ho
theorem c_savesBy {L d h s v : Nat} {S : SH} {D : m_D} {Q : m_K} (ho : okS S) (ht : trV S D) (hs : s < 16) (hh : h < 64) (hv : v < 100) (h1 : ∀ D', m_fr z_FT D D' → trV S D' → p_sv S s v h = true → Q (some (.int 1)) D') (h0 : ∀ D', m_fr z_FT D D' → trV S D' → p_sv S s v h = false → Q (some (.int 0)) D') : m_call L (d + 5) 49 [.ref 0, .int (nI h), .int (nI s), .int (nI v)] D Q := by
  have k2 : ∀ (D1 : m_D), m_fr z_FT D D1 → trV S D1 → (∀ f, f < 4 → D1 20 f = nI (p_wet (covS S s h) f S.1)) → ∀ (m f : Nat), f + m = 4 → p_al (p_dry S s v h) f = true → m_V L (d + 4) Q t_X4_savesBy 2 (55, [some (.ref 0), some (.int (nI h)), some (.int (nI s)), some (.int (nI v)), some (.int (nI f))], [], D1) := by
    intro D1 hf1 ht1 hF m
    induction m with
    | zero =>
      intro f hm hp
      have hm : f = 4 := by omega
      subst hm
      refine v_go rfl ?_
      refine v_bT rfl (Int32.le_refl _) ?_
      exact v_go rfl (v_rt rfl (Or.inr rfl) (h1 D1 hf1 ht1 hp))
    | succ m ih =>
      intro f hm hp
      have hin : vp_in (nI f) 4 := vp_in_nI (by omega) (by omega)
      have hcl : (nI f).toNatClampNeg = f := nI_clamp (by omega)
      have h102 : p_wet (covS S s h) f S.1 ≤ 102 := p_wet_102 (okS_cov ho) f
      have e : p_al (p_dry S s v h) (f + 1) = (p_al (p_dry S s v h) f && (!bitN s f || decide (p_wet (covS S s h) f S.1 ≤ v))) := rfl
      have ih := ih (f + 1) (by omega)
      rw [← nI_1] at ih
      refine v_go rfl ?_
      refine v_bF rfl (nI_ge (b := 4) (by omega) (by omega)) ?_
      refine v_go rfl ?_
      rw [bit_4 hs (by omega)]
      cases hb : bitN s f with
      | false =>
        refine v_bT rfl (by decide) ?_
        exact v_run 2 rfl (ih (by rw [e, hp, hb]; rfl))
      | true =>
        refine v_bF rfl (fun z => z rfl) ?_
        refine v_go rfl ?_
        refine v_sd rfl hin ?_
        rw [hcl, hF f (by omega)]
        refine v_go rfl ?_
        by_cases g : p_wet (covS S s h) f S.1 ≤ v
        · refine v_bT rfl (nI_le g (by omega)) ?_
          exact v_run 2 rfl (ih (by rw [e, hp, hb, decide_eq_true g]; rfl))
        · refine v_bF rfl (nI_ge (by omega) (by omega)) ?_
          have e0 : p_al (p_dry S s v h) (f + 1) = false := by rw [e, hp, hb, decide_eq_false g]; rfl
          have e1 := p_al_pre _ (f + 1) e0 m
          rw [show f + 1 + m = 4 by omega] at e1
          exact v_go rfl (v_rt rfl (Or.inl rfl) (h0 D1 hf1 ht1 e1))
  have k1 : ∀ (m t : Nat) (D1 : m_D), t + m = 6 → m_fr [14] D D1 → (∀ q, q < t → D1 14 q = if bitN h q = true then nI s else 0) → m_V L (d + 4) Q t_X4_savesBy 2 (3, [some (.ref 0), some (.int (nI h)), some (.int (nI s)), some (.int (nI v)), some (.int (nI t))], [], D1) := by
    intro m
    induction m with
    | zero =>
      intro t D1 hm hf hp
      have hm : t = 6 := by omega
      subst hm
      have hr2 := relC_cov hs ht hf hp
      refine v_go rfl ?_
      refine v_bT rfl (Int32.le_refl _) ?_
      refine v_go rfl ?_
      refine v_ca rfl ?_
      refine c_workOut (Or.inr rfl) hr2 (okS_cov ho) (fun D3 hf3 hF => ?_)
      exact v_run 2 rfl (k2 D3 ((hf.sub (by simp)).trans (fF hf3)) ⟨_, relC_c (fun i hi => hf3 _ (z_F_B (Or.inr rfl) i hi)) hr2⟩ hF.2.2.1 4 0 (by omega) rfl)
    | succ m ih =>
      intro t D1 hm hf hp
      have hin : vp_in (nI t) 6 := vp_in_nI (by omega) (by omega)
      have hcl : (nI t).toNatClampNeg = t := nI_clamp (by omega)
      have ih := ih (t + 1) (m_up D1 14 t (if bitN h t = true then nI s else 0)) (by omega) (hf.up (by simp)) (fun q hq => by
        by_cases e : q = t
        · rw [e, m_up_s]
        · rw [m_up_n e]
          exact hp q (by omega))
      rw [← nI_1] at ih
      refine v_go rfl ?_
      refine v_bF rfl (nI_ge (b := 6) (by omega) (by omega)) ?_
      refine v_go rfl ?_
      rw [bit_6 hh (by omega)]
      cases hb : bitN h t with
      | true =>
        rw [hb] at ih
        refine v_bF rfl (fun z => z rfl) ?_
        refine v_go rfl ?_
        refine v_sd rfl hin ?_
        rw [hcl]
        exact v_run 2 rfl ih
      | false =>
        rw [hb] at ih
        refine v_bT rfl (by decide) ?_
        refine v_go rfl ?_
        refine v_sd rfl hin ?_
        rw [hcl]
        exact v_run 2 rfl ih
  refine v_in (tb' := t_X4_savesBy) (rk' := 2) rfl rfl rfl ?_
  exact v_run 2 rfl (k1 6 0 D (by omega) (m_fr.refl _ _) (fun q hq => absurd hq (by omega)))
theorem c_areSaved {L d h s v : Nat} {S : SH} {D : m_D} {Q : m_K} (ho : okS S) (hr : relM D (covS S s h)) (hs : s < 16) (hv : v < 100) (h1 : ∀ D', m_fM z_R [22] D D' → p_sv S s v h = true → Q (some (.int 1)) D') (h0 : ∀ D', m_fM z_R [22] D D' → p_sv S s v h = false → Q (some (.int 0)) D') : m_call L (d + 4) 138 [.ref 34, .int (nI s), .int (nI v)] D Q := by
  refine v_in (tb' := t_X5_areSaved) (rk' := 2) rfl rfl rfl ?_
  refine v_go rfl ?_
  refine v_ca rfl ?_
  refine c_rains hr (okS_cov ho) (fun D3 hf3 hF => ?_)
  have key : ∀ (m f : Nat), f + m = 4 → m_V L (d + 3) Q t_X5_areSaved 2 (9, [some (.ref 34), some (.int (nI s)), some (.int (nI v)), some (.int (if p_al (p_dry S s v h) f = true then 1 else 0)), some (.int (nI f))], [], D3) := by
    intro m
    induction m with
    | zero =>
      intro f hm
      have hm : f = 4 := by omega
      subst hm
      refine v_go rfl ?_
      refine v_bT rfl (Int32.le_refl _) ?_
      cases hp : p_al (p_dry S s v h) 4 with
      | true => exact v_go rfl (v_rt rfl (Or.inr rfl) (h1 D3 hf3 hp))
      | false => exact v_go rfl (v_rt rfl (Or.inl rfl) (h0 D3 hf3 hp))
    | succ m ih =>
      intro f hm
      have hin : vp_in (nI f) 4 := vp_in_nI (by omega) (by omega)
      have hcl : (nI f).toNatClampNeg = f := nI_clamp (by omega)
      have h102 : p_wet (covS S s h) f S.1 ≤ 102 := p_wet_102 (okS_cov ho) f
      have e50 : D3 50 f = nI (p_wet (covS S s h) f S.1) := hF.2.2.1 f (by omega)
      have e : p_al (p_dry S s v h) (f + 1) = (p_al (p_dry S s v h) f && (!bitN s f || decide (p_wet (covS S s h) f S.1 ≤ v))) := rfl
      have ih := ih (f + 1) (by omega)
      rw [← nI_1, e] at ih
      refine v_go rfl ?_
      refine v_bF rfl (nI_ge (b := 4) (by omega) (by omega)) ?_
      refine v_go rfl ?_
      cases hp : p_al (p_dry S s v h) f with
      | false =>
        rw [hp] at ih
        refine v_bT rfl rfl ?_
        exact v_run 4 rfl ih
      | true =>
        rw [hp] at ih
        refine v_bF rfl (by decide) ?_
        refine v_go rfl ?_
        rw [bit_4 hs (by omega)]
        cases hb : bitN s f with
        | false =>
          rw [hb] at ih
          refine v_bT rfl rfl ?_
          exact v_run 5 rfl ih
        | true =>
          rw [hb] at ih
          refine v_bF rfl (by decide) ?_
          refine v_go rfl ?_
          refine v_sd rfl hin ?_
          rw [hcl, e50]
          refine v_go rfl ?_
          by_cases g : p_wet (covS S s h) f S.1 ≤ v
          · rw [decide_eq_true g] at ih
            refine v_bF rfl (nI_nlt g (by omega)) ?_
            exact v_run 5 rfl ih
          · rw [decide_eq_false g] at ih
            refine v_bT rfl (nI_lt (by omega) (by omega)) ?_
            exact v_run 4 rfl ih
  exact v_run 4 rfl (key 4 0 (by omega))
def p_fw (S : SH) (s v : Nat) : Nat → Option Nat
  | 0 => none
  | h + 1 => match p_fw S s v h with
    | none => if p_sv S s v h = true then some (popN 6 h) else none
    | some w => if popN 6 h < w ∧ p_sv S s v h = true then some (popN 6 h) else some w
theorem pop_le : ∀ m, m < 64 → popN 6 m ≤ 6 := by decide +kernel
theorem p_fw_le (S : SH) (s v : Nat) : ∀ h, h ≤ 64 → ∀ w, p_fw S s v h = some w → w ≤ 6
  | 0, _, w, e => by cases e
  | h + 1, hh, w, e => by
    have ih := p_fw_le S s v h (by omega)
    have hp := pop_le h (by omega)
    have e : (match p_fw S s v h with
      | none => if p_sv S s v h = true then some (popN 6 h) else none
      | some w => if popN 6 h < w ∧ p_sv S s v h = true then some (popN 6 h) else some w) = some w := e
    cases e1 : p_fw S s v h with
    | none =>
      rw [e1] at e
      dsimp only at e
      split at e
      · cases e
        exact hp
      · cases e
    | some u =>
      rw [e1] at e
      dsimp only at e
      split at e
      · cases e
        exact hp
      · cases e
        exact ih _ e1
theorem x_saved {L s v : Nat} {S : SH} {D : m_D} {Q : m_K} (hr : relC 1 D S) (ho : okS S) (hn : S.1 ≠ 0) (hs : s < 16) (hv : v < 100) (h : ∀ D', m_fr z_FT D D' → Q (some (.int (oI (p_fw S s v 64)))) D') : m_call L 8 48 [.ref 0, .int (nI s), .int (nI v)] D Q := by
  have hn6 := ho.1
  have key : ∀ (m i : Nat) (z : Option Value) (D1 : m_D), i + m = 64 → m_fr z_FT D D1 → trV S D1 → m_V L 7 Q t_X4_saved 1 (48, [some (.ref 0), some (.int (nI s)), some (.int (nI v)), some (.int (oI (p_fw S s v i))), some (.int (nI i)), z], [], D1) := by
    intro m
    induction m with
    | zero =>
      intro i z D1 hm hf ht
      have hm : i = 64 := by omega
      subst hm
      refine v_go rfl ?_
      refine v_bT rfl (Int32.le_refl _) ?_
      exact v_go rfl (v_rt rfl trivial (h D1 hf))
    | succ m ih =>
      intro i z D1 hm hf ht
      have hp6 := pop_le i (by omega)
      have hw6 := p_fw_le S s v i (by omega)
      have e : p_fw S s v (i + 1) = match p_fw S s v i with
        | none => if p_sv S s v i = true then some (popN 6 i) else none
        | some w => if popN 6 i < w ∧ p_sv S s v i = true then some (popN 6 i) else some w := rfl
      refine v_go rfl ?_
      refine v_bF rfl (nI_ge (b := 64) (by omega) (by omega)) ?_
      refine v_go rfl ?_
      refine v_ca rfl ?_
      refine c_bitCount (by omega) ?_
      refine v_go rfl ?_
      cases hw : p_fw S s v i with
      | none =>
        rw [hw] at e
        dsimp only at e
        refine v_bT rfl rfl ?_
        refine v_go rfl ?_
        refine v_ca rfl ?_
        refine c_savesBy ho ht hs (by omega) hv (fun D2 hf2 ht2 hp => ?_) (fun D2 hf2 ht2 hp => ?_)
        · rw [if_pos hp] at e
          have ih := ih (i + 1) (some (.int (nI (popN 6 i)))) D2 (by omega) (hf.trans hf2) ht2
          rw [e, ← nI_1] at ih
          refine v_go rfl ?_
          refine v_bF rfl (by decide) ?_
          exact v_run 4 rfl ih
        · rw [hp, if_neg (by decide)] at e
          have ih := ih (i + 1) (some (.int (nI (popN 6 i)))) D2 (by omega) (hf.trans hf2) ht2
          rw [e, ← nI_1] at ih
          refine v_go rfl ?_
          refine v_bT rfl rfl ?_
          exact v_run 2 rfl ih
      | some w =>
        have hw6 := hw6 w hw
        rw [hw] at e
        dsimp only at e
        refine v_bF rfl (nI_m9 (by omega)) ?_
        refine v_go rfl ?_
        by_cases g : popN 6 i < w
        · refine v_bF rfl (nI_ge g (by omega)) ?_
          refine v_go rfl ?_
          refine v_ca rfl ?_
          refine c_savesBy ho ht hs (by omega) hv (fun D2 hf2 ht2 hp => ?_) (fun D2 hf2 ht2 hp => ?_)
          · rw [if_pos ⟨g, hp⟩] at e
            have ih := ih (i + 1) (some (.int (nI (popN 6 i)))) D2 (by omega) (hf.trans hf2) ht2
            rw [e, ← nI_1] at ih
            refine v_go rfl ?_
            refine v_bF rfl (by decide) ?_
            exact v_run 4 rfl ih
          · rw [hp, if_neg (fun z => by cases z.2)] at e
            have ih := ih (i + 1) (some (.int (nI (popN 6 i)))) D2 (by omega) (hf.trans hf2) ht2
            rw [e, ← nI_1] at ih
            refine v_go rfl ?_
            refine v_bT rfl rfl ?_
            exact v_run 2 rfl ih
        · rw [if_neg (fun z => g z.1)] at e
          have ih := ih (i + 1) (some (.int (nI (popN 6 i)))) D1 (by omega) hf ht
          rw [e, ← nI_1] at ih
          refine v_bT rfl (nI_le (by omega) (by omega)) ?_
          exact v_run 2 rfl ih
  refine v_in (tb' := t_X4_saved) (rk' := 1) rfl rfl rfl ?_
  refine v_go rfl ?_
  refine v_ca rfl ?_
  refine c_isWithin (n := 15) (by omega) (fun _ => ?_) (fun z => absurd (vp_in_nI (by omega) (by omega)) z)
  refine v_go rfl ?_
  refine v_bF rfl (by decide) ?_
  refine v_go rfl ?_
  refine v_ca rfl ?_
  refine c_isWithin (n := 99) (by omega) (fun _ => ?_) (fun z => absurd (vp_in_nI (by omega) (by omega)) z)
  refine v_go rfl ?_
  refine v_bT rfl (by decide) ?_
  refine v_go rfl ?_
  refine v_ca rfl ?_
  refine c_hasShower hr.1 hn6 (fun _ => ?_) (fun z => absurd z hn)
  refine v_go rfl ?_
  refine v_bT rfl (by decide) ?_
  refine v_go rfl ?_
  refine v_ca rfl ?_
  refine c_become hr ho (fun D1 hf1 hr1 => ?_)
  exact v_run 4 rfl (key 64 0 none D1 (by omega) (fT hf1) ⟨S.2.2.2, hr1⟩)
theorem y_saved {L s v : Nat} {S : SH} {D : m_D} {Q : m_K} (hr : relM D S) (ho : okS S) (hk : S.2.1 ≠ 0) (hs : s < 16) (hv : v < 100) (h : ∀ D', m_fM z_MT [22] D D' → relM D' S → Q (some (.int (oI (p_fw S s v 64)))) D') : m_call L 8 139 [.ref 34, .int (nI s), .int (nI v)] D Q := by
  have hn6 := ho.1
  have hk3 := ho.2.1
  have r2 : D 34 2 = nI S.2.1 := hr.2.1
  have key : ∀ (m i : Nat) (z : Option Value) (D1 : m_D), i + m = 64 → m_fM z_MT [22] D D1 → trW S D1 → relH D1 S → m_V L 7 Q t_X5_saved 1 (47, [some (.ref 34), some (.int (nI s)), some (.int (nI v)), some (.int (oI (p_fw S s v i))), some (.int (nI i)), z], [], D1) := by
    intro m
    induction m with
    | zero =>
      intro i z D1 hm hf ht hh
      have hm : i = 64 := by omega
      subst hm
      obtain ⟨cg, hr1⟩ := ht
      refine v_go rfl ?_
      refine v_bT rfl (Int32.le_refl _) ?_
      refine v_go rfl ?_
      refine v_ca rfl ?_
      refine c_brings hr1 ho rfl rfl (fun _ _ _ => rfl) hh (fun D2 hf2 hr2 => ?_)
      exact v_go rfl (v_rt rfl trivial (h D2 (hf.trans (mtV hf2)) hr2))
    | succ m ih =>
      intro i z D1 hm hf ht hh
      have hp6 := pop_le i (by omega)
      have hw6 := p_fw_le S s v i (by omega)
      have e : p_fw S s v (i + 1) = match p_fw S s v i with
        | none => if p_sv S s v i = true then some (popN 6 i) else none
        | some w => if popN 6 i < w ∧ p_sv S s v i = true then some (popN 6 i) else some w := rfl
      have k2 : ∀ (D2 : m_D), m_fM [40] [] D1 D2 → relM D2 (covS S s i) → m_V L 7 Q t_X5_saved 1 (92, [some (.ref 34), some (.int (nI s)), some (.int (nI v)), some (.int (oI (p_fw S s v i))), some (.int (nI i)), some (.int (nI 4))], [], D2) := by
        intro D2 hf2 hr2
        have hfa : m_fM z_MT [22] D D2 := hf.trans (hf2.sub (by simp) (by simp))
        have hh2 : relH D2 S := relH_keep hh hf2 (by decide)
        cases hw : p_fw S s v i with
        | none =>
          rw [hw] at e
          dsimp only at e
          refine v_go rfl ?_
          refine v_bT rfl (by decide) ?_
          refine v_go rfl ?_
          refine v_bF rfl (by decide) ?_
          refine v_go rfl ?_
          refine v_ca rfl ?_
          refine c_areSaved ho hr2 hs hv (fun D3 hf3 hp => ?_) (fun D3 hf3 hp => ?_)
          · have hr3 := relM_keep hf3 (by decide) (by decide) hr2
            have ih := ih (i + 1) (some (.int 1)) D3 (by omega) (hfa.trans (mtR hf3)) ⟨_, hr3⟩ (relH_keep hh2 hf3 (by decide))
            rw [if_pos hp] at e
            rw [e, ← nI_1] at ih
            refine v_go rfl ?_
            refine v_bF rfl (by decide) ?_
            refine v_go rfl ?_
            refine v_ca rfl ?_
            refine c_bits (by omega) ?_
            exact v_run 4 rfl ih
          · have hr3 := relM_keep hf3 (by decide) (by decide) hr2
            have ih := ih (i + 1) (some (.int 1)) D3 (by omega) (hfa.trans (mtR hf3)) ⟨_, hr3⟩ (relH_keep hh2 hf3 (by decide))
            rw [hp, if_neg (by decide)] at e
            rw [e, ← nI_1] at ih
            refine v_go rfl ?_
            refine v_bT rfl rfl ?_
            exact v_run 4 rfl ih
        | some w =>
          have hw6 := hw6 w hw
          rw [hw] at e
          dsimp only at e
          refine v_go rfl ?_
          refine v_bF rfl (nI_pos (by omega)) ?_
          refine v_go rfl ?_
          refine v_ca rfl ?_
          refine c_bits (by omega) ?_
          refine v_go rfl ?_
          by_cases g : popN 6 i < w
          · refine v_bF rfl (nI_ge g (by omega)) ?_
            refine v_go rfl ?_
            refine v_bF rfl (by decide) ?_
            refine v_go rfl ?_
            refine v_ca rfl ?_
            refine c_areSaved ho hr2 hs hv (fun D3 hf3 hp => ?_) (fun D3 hf3 hp => ?_)
            · have hr3 := relM_keep hf3 (by decide) (by decide) hr2
              have ih := ih (i + 1) (some (.int 1)) D3 (by omega) (hfa.trans (mtR hf3)) ⟨_, hr3⟩ (relH_keep hh2 hf3 (by decide))
              rw [if_pos ⟨g, hp⟩] at e
              rw [e, ← nI_1] at ih
              refine v_go rfl ?_
              refine v_bF rfl (by decide) ?_
              refine v_go rfl ?_
              refine v_ca rfl ?_
              refine c_bits (by omega) ?_
              exact v_run 4 rfl ih
            · have hr3 := relM_keep hf3 (by decide) (by decide) hr2
              have ih := ih (i + 1) (some (.int 1)) D3 (by omega) (hfa.trans (mtR hf3)) ⟨_, hr3⟩ (relH_keep hh2 hf3 (by decide))
              rw [hp, if_neg (fun z => by cases z.2)] at e
              rw [e, ← nI_1] at ih
              refine v_go rfl ?_
              refine v_bT rfl rfl ?_
              exact v_run 4 rfl ih
          · have ih := ih (i + 1) (some (.int 0)) D2 (by omega) hfa ⟨_, hr2⟩ hh2
            rw [if_neg (fun z => g z.1)] at e
            rw [e, ← nI_1] at ih
            refine v_bT rfl (nI_le (by omega) (by omega)) ?_
            refine v_go rfl ?_
            refine v_bT rfl rfl ?_
            exact v_run 4 rfl ih
      have k1 : ∀ (q f : Nat) (D2 : m_D), f + q = 4 → m_fM [40] [] D1 D2 → (∀ a, a < f → D2 40 a = if bitN s a = true then nI i else 0) → m_V L 7 Q t_X5_saved 1 (57, [some (.ref 34), some (.int (nI s)), some (.int (nI v)), some (.int (oI (p_fw S s v i))), some (.int (nI i)), some (.int (nI f))], [], D2) := by
        intro q
        induction q with
        | zero =>
          intro f D2 hq hf2 hp
          have hq : f = 4 := by omega
          subst hq
          refine v_go rfl ?_
          refine v_bT rfl (Int32.le_refl _) ?_
          exact k2 D2 hf2 (relM_cov (by omega) ht hf2 hp)
        | succ q ih2 =>
          intro f D2 hq hf2 hp
          have hin : vp_in (nI f) 4 := vp_in_nI (by omega) (by omega)
          have hcl : (nI f).toNatClampNeg = f := nI_clamp (by omega)
          have ih2 := ih2 (f + 1) (m_up D2 40 f (if bitN s f = true then nI i else 0)) (by omega) (hf2.up (by simp) (by decide)) (fun a ha => by
            by_cases e : a = f
            · rw [e, m_up_s]
            · rw [m_up_n e]
              exact hp a (by omega))
          rw [← nI_1] at ih2
          refine v_go rfl ?_
          refine v_bF rfl (nI_ge (b := 4) (by omega) (by omega)) ?_
          refine v_go rfl ?_
          rw [bit_4 hs (by omega)]
          cases hb : bitN s f with
          | true =>
            rw [hb] at ih2
            refine v_bF rfl (fun z => z rfl) ?_
            refine v_go rfl ?_
            refine v_sd rfl hin ?_
            rw [hcl]
            exact v_run 2 rfl ih2
          | false =>
            rw [hb] at ih2
            refine v_bT rfl (by decide) ?_
            refine v_go rfl ?_
            refine v_sd rfl hin ?_
            rw [hcl]
            exact v_run 2 rfl ih2
      refine v_go rfl ?_
      refine v_bF rfl (nI_ge (b := 64) (by omega) (by omega)) ?_
      exact v_run 2 rfl (k1 4 0 D1 (by omega) (m_fM.refl _ _ _) (fun a ha => absurd ha (by omega)))
  refine v_in (tb' := t_X5_saved) (rk' := 1) rfl rfl rfl ?_
  refine v_go rfl ?_
  refine v_ca rfl ?_
  refine c_in (fun _ _ => ?_) (fun z => absurd ((in_iff (n := 16) (by decide)).mpr (vp_in_nI (by omega) (by omega))) z)
  refine v_go rfl ?_
  refine v_bF rfl (by decide) ?_
  refine v_go rfl ?_
  refine v_ca rfl ?_
  refine c_in (fun _ _ => ?_) (fun z => absurd ((in_iff (n := 100) (by decide)).mpr (vp_in_nI (by omega) (by omega))) z)
  refine v_go rfl ?_
  refine v_bT rfl (by decide) ?_
  refine v_go rfl ?_
  rw [r2]
  refine v_bT rfl (nI_ne0 (by omega) (by omega)) ?_
  refine v_go rfl ?_
  refine v_ca rfl ?_
  refine c_keeps hr ho (fun D1 hf1 hh1 => ?_)
  have hr1 := relM_keep hf1 (by decide) (by decide) hr
  exact v_run 4 rfl (key 64 0 none D1 (by omega) (mtK hf1) ⟨S.2.2.2, hr1⟩ hh1)
theorem s_saved (x y : Int32) : StepI 48 139 [.int x, .int y] := by
  intro L Z hz
  obtain ⟨S, rd, sh, tr, fl⟩ := Z
  have hoS : okS S := hz.1
  have hn6 : S.1 ≤ 6 := hoS.1
  have hnk : S.1 = 0 ↔ S.2.1 = 0 := hz.2.1
  have hk3 : S.2.1 ≤ 3 := hoS.2.1
  by_cases hxy : vp_in x 16 ∧ vp_in y 100
  · obtain ⟨hx, hy⟩ := hxy
    by_cases hn : S.1 = 0
    · have hk : S.2.1 = 0 := hnk.mp hn
      refine ⟨-3, (S, rd, sh, tr, fl), hz, fun D Q hI h => ?_, fun D Q hI h => ?_⟩
      · refine v_in (tb' := t_X4_saved) (rk' := 1) rfl rfl rfl ?_
        refine v_go rfl ?_
        refine v_ca rfl ?_
        refine c_isWithin (n := 15) (by omega) (fun _ => ?_) (fun z => absurd hx z)
        refine v_go rfl ?_
        refine v_bF rfl (by decide) ?_
        refine v_go rfl ?_
        refine v_ca rfl ?_
        refine c_isWithin (n := 99) (by omega) (fun _ => ?_) (fun z => absurd hy z)
        refine v_go rfl ?_
        refine v_bT rfl (by decide) ?_
        refine v_go rfl ?_
        refine v_ca rfl ?_
        refine c_hasShower hI.1.1 hn6 (fun z => absurd hn z) (fun _ => ?_)
        refine v_go rfl ?_
        refine v_bF rfl (by decide) ?_
        exact v_go rfl (v_rt rfl trivial (h _ (frC.refl _) hI))
      · have r2 : D 34 2 = nI 0 := by rw [← hk]; exact hI.1.2.1
        refine v_in (tb' := t_X5_saved) (rk' := 1) rfl rfl rfl ?_
        refine v_go rfl ?_
        refine v_ca rfl ?_
        refine c_in (fun _ _ => ?_) (fun z => absurd ((in_iff (n := 16) (by decide)).mpr hx) z)
        refine v_go rfl ?_
        refine v_bF rfl (by decide) ?_
        refine v_go rfl ?_
        refine v_ca rfl ?_
        refine c_in (fun _ _ => ?_) (fun z => absurd ((in_iff (n := 100) (by decide)).mpr hy) z)
        refine v_go rfl ?_
        refine v_bT rfl (by decide) ?_
        refine v_go rfl ?_
        rw [r2]
        refine v_bF rfl (fun z => z rfl) ?_
        exact v_go rfl (v_rt rfl trivial (h _ (frM.refl _) hI))
    · have hk : S.2.1 ≠ 0 := fun z => hn (hnk.mpr z)
      obtain ⟨s, hs, rfl⟩ := vp_in_of hx (by omega)
      obtain ⟨v, hv, rfl⟩ := vp_in_of hy (by omega)
      refine ⟨oI (p_fw S s v 64), (S, rd, sh, tr, fl), hz, fun D Q hI h => ?_, fun D Q hI h => ?_⟩
      · exact x_saved hI.1 hoS hn hs hv (fun D' hf => h D' (frC_FT hf) (InvC_FT hI hf))
      · exact y_saved hI.1 hoS hk hs hv (fun D' hf hr => h D' (frM_MT hf) (InvM_MT hI hr hf))
  · refine ⟨-2, (S, rd, sh, tr, fl), hz, fun D Q hI h => ?_, fun D Q hI h => ?_⟩
    · have h := h _ (frC.refl _) hI
      refine v_in (tb' := t_X4_saved) (rk' := 1) rfl rfl rfl ?_
      refine v_go rfl ?_
      refine v_ca rfl ?_
      refine c_isWithin (n := 15) (by omega) (fun z1 => ?_) (fun _ => ?_)
      · refine v_go rfl ?_
        refine v_bF rfl (by decide) ?_
        refine v_go rfl ?_
        refine v_ca rfl ?_
        refine c_isWithin (n := 99) (by omega) (fun z2 => absurd ⟨z1, z2⟩ hxy) (fun _ => ?_)
        refine v_go rfl ?_
        refine v_bF rfl (by decide) ?_
        exact v_go rfl (v_rt rfl trivial h)
      · refine v_go rfl ?_
        refine v_bT rfl rfl ?_
        exact v_go rfl (v_rt rfl trivial h)
    · have h := h _ (frM.refl _) hI
      refine v_in (tb' := t_X5_saved) (rk' := 1) rfl rfl rfl ?_
      refine v_go rfl ?_
      refine v_ca rfl ?_
      refine c_in (fun p1 p2 => ?_) (fun _ => ?_)
      · have z1 := (in_iff (n := 16) (by decide)).mp ⟨p1, p2⟩
        refine v_go rfl ?_
        refine v_bF rfl (by decide) ?_
        refine v_go rfl ?_
        refine v_ca rfl ?_
        refine c_in (fun p1 p2 => absurd ⟨z1, (in_iff (n := 100) (by decide)).mp ⟨p1, p2⟩⟩ hxy) (fun _ => ?_)
        refine v_go rfl ?_
        refine v_bF rfl (by decide) ?_
        exact v_go rfl (v_rt rfl trivial h)
      · refine v_go rfl ?_
        refine v_bT rfl rfl ?_
        exact v_go rfl (v_rt rfl trivial h)
end
section
/-! ===== misprint ===== -/
def p_W (S : SH) (f l x : Nat) : Nat := p_wet (setT S 0 l x) f S.1
theorem fr_set0 (S : SH) (l x i : Nat) : ∀ c, p_fr (setT S 0 l x) i c = p_fr S i c
  | 0 => rfl
  | c + 1 => by
    have e1 : p_fr (setT S 0 l x) i (c + 1) = p_nx (p_hb i ((setT S 0 l x).2.2.1 4 c) ((setT S 0 l x).2.2.1 3 c)) c (p_fr (setT S 0 l x) i c) := rfl
    rw [e1, fr_set0 S l x i c, setT_n (a := 4) (by omega), setT_n (a := 3) (by omega)]
    rfl
theorem dst_set0 (S : SH) (l x i : Nat) : p_dst (setT S 0 l x) i = p_dst S i := by
  unfold p_dst
  have e : p_fr (setT S 0 l x) i (setT S 0 l x).2.1 = p_fr S i S.2.1 := fr_set0 S l x i S.2.1
  rw [e, setT_n (a := 1) (by omega)]
  rfl
theorem give_mono (k : Nat) {a b : Nat} (h : a ≤ b) : p_give k a ≤ p_give k b := by
  unfold p_give
  split
  · omega
  · omega
  · omega
theorem amt_mono (S : SH) (l i : Nat) {x y : Nat} (h : x ≤ y) : p_amt (setT S 0 l x) i ≤ p_amt (setT S 0 l y) i := by
  unfold p_amt
  have e1 : p_by (setT S 0 l x) i = p_by S i := congrArg Prod.snd (fr_set0 S l x i S.2.1)
  have e2 : p_by (setT S 0 l y) i = p_by S i := congrArg Prod.snd (fr_set0 S l y i S.2.1)
  rw [e1, e2]
  cases p_by S i with
  | none => exact Nat.le_refl _
  | some c =>
    dsimp only
    rw [setT_n (S := S) (v := x) (a := 2) (by omega), setT_n (S := S) (v := y) (a := 2) (by omega)]
    apply give_mono
    by_cases e : i = l
    · rw [e, setT_s, setT_s]
      exact h
    · rw [setT_n (fun z => e z.2), setT_n (fun z => e z.2)]
      exact Nat.le_refl _
theorem wet_mono (S : SH) (f l : Nat) {x y : Nat} (h : x ≤ y) : ∀ n, p_wet (setT S 0 l x) f n ≤ p_wet (setT S 0 l y) f n
  | 0 => Nat.le_refl _
  | n + 1 => by
    have ih := wet_mono S f l h n
    have ha := amt_mono S l n h
    have e1 : p_wet (setT S 0 l x) f (n + 1) = p_wet (setT S 0 l x) f n + (if p_dst (setT S 0 l x) n = some f then p_amt (setT S 0 l x) n else 0) := rfl
    have e2 : p_wet (setT S 0 l y) f (n + 1) = p_wet (setT S 0 l y) f n + (if p_dst (setT S 0 l y) n = some f then p_amt (setT S 0 l y) n else 0) := rfl
    rw [e1, e2, dst_set0, dst_set0]
    split
    · omega
    · omega
theorem W_was (S : SH) (f l : Nat) : p_W S f l (S.2.2.1 0 l) = p_wet S f S.1 := by
  unfold p_W
  rw [setT_self]
theorem W_gt {S : SH} {f l x v : Nat} (hlt : p_wet S f S.1 < v) (h : v ≤ p_W S f l x) : S.2.2.1 0 l < x := by
  apply Decidable.byContradiction
  intro hn
  have h1 : p_W S f l x ≤ p_W S f l (S.2.2.1 0 l) := wet_mono S f l (by omega) S.1
  rw [W_was] at h1
  omega
def p_R (S : SH) (f v b l : Nat) : Prop := S.2.2.1 0 l + b ≤ 9 ∧ v ≤ p_W S f l (S.2.2.1 0 l + b)
def ms_is (S : SH) (f v : Nat) : Option (Nat × Nat) → Prop
  | none => ∀ b l, 1 ≤ b → l < S.1 → ¬ p_R S f v b l
  | some (b, l) => 1 ≤ b ∧ l < S.1 ∧ p_R S f v b l ∧ ∀ b' l', 1 ≤ b' → l' < S.1 → p_R S f v b' l' → b < b' ∨ (b = b' ∧ l ≤ l')
theorem ms_uni {S : SH} {f v : Nat} : ∀ {o o' : Option (Nat × Nat)}, ms_is S f v o → ms_is S f v o' → o = o'
  | none, none, _, _ => rfl
  | none, some (b, l), h, g => absurd g.2.2.1 (h b l g.1 g.2.1)
  | some (b, l), none, h, g => absurd h.2.2.1 (g b l h.1 h.2.1)
  | some (b, l), some (b', l'), h, g => by
    have h1 := h.2.2.2 b' l' g.1 g.2.1 g.2.2.1
    have h2 := g.2.2.2 b l h.1 h.2.1 h.2.2.1
    have e1 : b = b' := by omega
    have e2 : l = l' := by omega
    rw [e1, e2]
theorem ms_ex (S : SH) (f v : Nat) : ∃ o, ms_is S f v o := by
  by_cases h : ∃ b, 1 ≤ b ∧ ∃ l, l < S.1 ∧ p_R S f v b l
  · obtain ⟨b, ⟨hb, hl⟩, hm⟩ := pk_least (fun b => 1 ≤ b ∧ ∃ l, l < S.1 ∧ p_R S f v b l) h
    obtain ⟨l, ⟨hl1, hl2⟩, hml⟩ := pk_least (fun l => l < S.1 ∧ p_R S f v b l) hl
    refine ⟨some (b, l), hb, hl1, hl2, fun b' l' h1 h2 h3 => ?_⟩
    by_cases e : b' < b
    · exact absurd ⟨h1, l', h2, h3⟩ (hm b' e)
    · by_cases e2 : b = b'
      · subst e2
        refine Or.inr ⟨rfl, ?_⟩
        apply Decidable.byContradiction
        intro hn
        exact hml l' (by omega) ⟨h2, h3⟩
      · exact Or.inl (by omega)
  · exact ⟨none, fun b l h1 h2 h3 => h ⟨b, h1, l, h2, h3⟩⟩
def lsB : Option (Nat × Nat) → Int32
  | none => -9
  | some (b, _) => nI b
def lsL : Option (Nat × Nat) → Int32
  | none => -9
  | some (_, l) => nI l
theorem c_isWetBy {L d l b f v : Nat} {S : SH} {D : m_D} {Q : m_K} (hr1 : relC 1 D S) (hr8 : relC 8 D S) (ho : okS S) (hl : l < S.1) (hb : b ≤ 9) (hf4 : f < 4) (hv : v < 100) (h1 : ∀ D', m_fr z_FT D D' → relC 8 D' S → p_R S f v b l → Q (some (.int 1)) D') (h0 : ∀ D', m_fr z_FT D D' → relC 8 D' S → ¬ p_R S f v b l → Q (some (.int 0)) D') : m_call L (d + 5) 51 [.ref 0, .int (nI l), .int (nI b), .int (nI f), .int (nI v)] D Q := by
  have hn6 := ho.1
  have hin : vp_in (nI l) 6 := vp_in_nI (by omega) (by omega)
  have hcl : (nI l).toNatClampNeg = l := nI_clamp (by omega)
  have hin4 : vp_in (nI f) 4 := vp_in_nI (by omega) (by omega)
  have hcl4 : (nI f).toNatClampNeg = f := nI_clamp (by omega)
  have hd9 := (ho.2.2.1 l hl).1
  have e2 : D 2 l = nI (S.2.2.1 0 l) := (hr1.2.2.1 l hl).1
  refine v_in (tb' := t_X4_isWetBy) (rk' := 2) rfl rfl rfl ?_
  refine v_go rfl ?_
  refine v_sd rfl hin ?_
  rw [hcl, e2]
  refine v_go rfl ?_
  rw [nI_add]
  by_cases g : S.2.2.1 0 l + b ≤ 9
  · refine v_bT rfl (nI_le (b := 9) g (by omega)) ?_
    refine v_go rfl ?_
    rw [nI_add]
    refine v_sd rfl hin ?_
    rw [hcl]
    have hr2 : relC 8 (m_up D 9 l (nI (S.2.2.1 0 l + b))) (setT S 0 l (S.2.2.1 0 l + b)) := relC_setT (B := 8) (i := 0) (by omega) hr8
    have ho2 : okS (setT S 0 l (S.2.2.1 0 l + b)) := okS_setT ho ⟨fun _ => g, fun z => (by omega), fun z => (by omega), fun z => (by omega), fun z => (by omega)⟩
    refine v_go rfl ?_
    refine v_ca rfl ?_
    refine c_workOut (Or.inr rfl) hr2 ho2 (fun D3 hf3 hF => ?_)
    have hr3 := relC_c (fun i hi => hf3 _ (z_F_B (Or.inr rfl) i hi)) hr2
    have hr4 : relC 8 (m_up D3 9 l (nI (S.2.2.1 0 l))) (setT (setT S 0 l (S.2.2.1 0 l + b)) 0 l (S.2.2.1 0 l)) := relC_setT (B := 8) (i := 0) (by omega) hr3
    rw [setT_setT, setT_self] at hr4
    have hf0 : m_fr z_FT D D := m_fr.refl _ _
    have hf4 : m_fr z_FT D (m_up D3 9 l (nI (S.2.2.1 0 l))) := ((hf0.up (by simp)).trans (fF hf3)).up (by simp)
    have e20 : D3 20 f = nI (p_W S f l (S.2.2.1 0 l + b)) := hF.2.2.1 f (by omega)
    have h102 : p_W S f l (S.2.2.1 0 l + b) ≤ 102 := p_wet_102 ho2 f
    refine v_go rfl ?_
    refine v_sd rfl hin ?_
    rw [hcl]
    refine v_go rfl ?_
    refine v_sd rfl hin4 ?_
    rw [hcl4]
    have e20' : m_up D3 9 l (nI (S.2.2.1 0 l)) 20 f = nI (p_W S f l (S.2.2.1 0 l + b)) := e20
    rw [e20']
    refine v_go rfl ?_
    by_cases g2 : v ≤ p_W S f l (S.2.2.1 0 l + b)
    · refine v_bF rfl (nI_nlt g2 (by omega)) ?_
      exact v_go rfl (v_rt rfl (Or.inr rfl) (h1 _ hf4 hr4 ⟨g, g2⟩))
    · refine v_bT rfl (nI_lt (by omega) (by omega)) ?_
      exact v_go rfl (v_rt rfl (Or.inl rfl) (h0 _ hf4 hr4 (fun z => g2 z.2)))
  · refine v_bF rfl (nI_ge (a := 9) (by omega) (by omega)) ?_
    exact v_go rfl (v_rt rfl (Or.inl rfl) (h0 D (m_fr.refl _ _) hr8 (fun z => g z.1)))
theorem x_mis {L f v : Nat} {w : Int32} {o : Option (Nat × Nat)} {S : SH} {D : m_D} {Q : m_K} (hr : relC 1 D S) (ho : okS S) (hn : S.1 ≠ 0) (hf4 : f < 4) (hv : v < 100) (hw : vp_in w 2) (hms : ms_is S f v o) (hge : v ≤ p_wet S f S.1 → ∀ D', m_fr z_FT D D' → Q (some (.int (if w = 0 then 0 else -9))) D') (h : p_wet S f S.1 < v → ∀ D', m_fr z_FT D D' → Q (some (.int (if w = 0 then lsB o else lsL o))) D') : m_call L 8 50 [.ref 0, .int (nI f), .int (nI v), .int w] D Q := by
  have hn6 := ho.1
  have hin4 : vp_in (nI f) 4 := vp_in_nI (by omega) (by omega)
  have hcl4 : (nI f).toNatClampNeg = f := nI_clamp (by omega)
  have h102 := p_wet_102 ho f
  have r1 : D 1 0 = nI S.1 := hr.1
  have key : p_wet S f S.1 < v → ∀ (m b : Nat) (z : Option Value) (D1 : m_D), b + m = 10 → 1 ≤ b → m_fr z_FT D D1 → relC 8 D1 S → (∀ b' l', 1 ≤ b' → b' < b → l' < S.1 → ¬ p_R S f v b' l') → m_V L 7 Q t_X4_misprint 1 (86, [some (.ref 0), some (.int (nI f)), some (.int (nI v)), some (.int w), some (.int 0), some (.int (nI b)), z], [], D1) := by
    intro hlt m
    have h := h hlt
    induction m with
    | zero =>
      intro b z D1 hm hb1 hf hr8 hno
      have hm : b = 10 := by omega
      subst hm
      have e : o = none := ms_uni hms (show ms_is S f v none from fun b' l' q1 q2 q3 => hno b' l' q1 (by have := q3.1; omega) q2 q3)
      have h := h D1 hf
      rw [e] at h
      have h : Q (some (.int (-9))) D1 := by
        by_cases ew : w = 0
        · rw [if_pos ew] at h
          exact h
        · rw [if_neg ew] at h
          exact h
      refine v_go rfl ?_
      refine v_bT rfl (by decide) ?_
      exact v_go rfl (v_rt rfl trivial h)
    | succ m ih =>
      intro b z D1 hm hb1 hf hr8 hno
      have inner : ∀ (q l : Nat) (D2 : m_D), l + q = S.1 → m_fr z_FT D D2 → relC 8 D2 S → (∀ l', l' < l → ¬ p_R S f v b l') → m_V L 7 Q t_X4_misprint 1 (96, [some (.ref 0), some (.int (nI f)), some (.int (nI v)), some (.int w), some (.int 0), some (.int (nI b)), some (.int (nI l))], [], D2) := by
        intro q
        induction q with
        | zero =>
          intro l D2 hq hf2 hr2 hno2
          have hq : l = S.1 := by omega
          subst hq
          have r1 : D2 1 0 = nI S.1 := by rw [hf2 1 (by simp)]; exact r1
          have ih := ih (b + 1) (some (.int (nI S.1))) D2 (by omega) (by omega) hf2 hr2 (fun b' l' q1 q2 q3 => by
            by_cases e : b' = b
            · rw [e]
              exact hno2 l' q3
            · exact hno b' l' q1 (by omega) q3)
          rw [← nI_1] at ih
          refine v_go rfl ?_
          rw [r1]
          refine v_bT rfl (Int32.le_refl _) ?_
          exact v_run 2 rfl ih
        | succ q ih2 =>
          intro l D2 hq hf2 hr2 hno2
          have r1 : D2 1 0 = nI S.1 := by rw [hf2 1 (by simp)]; exact r1
          refine v_go rfl ?_
          rw [r1]
          refine v_bF rfl (nI_ge (by omega) (by omega)) ?_
          refine v_go rfl ?_
          refine v_ca rfl ?_
          refine c_isWetBy (relC_FT hf2 hr) hr2 ho (by omega) (by omega) hf4 hv (fun D3 hf3 hr3 hp => ?_) (fun D3 hf3 hr3 hp => ?_)
          · have e : o = some (b, l) := ms_uni hms (show ms_is S f v (some (b, l)) from ⟨hb1, by omega, hp, fun b' l' q1 q2 q3 => by
              by_cases e1 : b' < b
              · exact absurd q3 (hno b' l' q1 e1 q2)
              · by_cases e2 : b = b'
                · subst e2
                  refine Or.inr ⟨rfl, ?_⟩
                  apply Decidable.byContradiction
                  intro hlt
                  exact hno2 l' (by omega) q3
                · exact Or.inl (by omega)⟩)
            have h := h D3 (hf2.trans hf3)
            rw [e] at h
            refine v_go rfl ?_
            refine v_bF rfl (by decide) ?_
            refine v_go rfl ?_
            by_cases ew : w = 0
            · rw [if_pos ew] at h
              refine v_bF rfl (fun z => z ew) ?_
              exact v_go rfl (v_rt rfl trivial h)
            · rw [if_neg ew] at h
              refine v_bT rfl ew ?_
              exact v_go rfl (v_rt rfl trivial h)
          · have ih2 := ih2 (l + 1) D3 (by omega) (hf2.trans hf3) hr3 (fun l' hl' => by
              by_cases e : l' = l
              · rw [e]
                exact hp
              · exact hno2 l' (by omega))
            rw [← nI_1] at ih2
            refine v_go rfl ?_
            refine v_bT rfl rfl ?_
            exact v_run 2 rfl ih2
      refine v_go rfl ?_
      refine v_bF rfl (nI_nlt (b := b) (a := 9) (by omega) (by omega)) ?_
      exact v_run 2 rfl (inner S.1 0 D1 (by omega) hf hr8 (fun l' hl' => absurd hl' (by omega)))
  refine v_in (tb' := t_X4_misprint) (rk' := 1) rfl rfl rfl ?_
  refine v_go rfl ?_
  refine v_ca rfl ?_
  refine c_isWithin (n := 99) (by omega) (fun _ => ?_) (fun z => absurd (vp_in_nI (by omega) (by omega)) z)
  refine v_go rfl ?_
  refine v_bF rfl (by decide) ?_
  refine v_go rfl ?_
  refine v_ca rfl ?_
  refine c_isWithin (n := 1) (by omega) (fun _ => ?_) (fun z => absurd hw z)
  refine v_go rfl ?_
  refine v_bF rfl (by decide) ?_
  refine v_go rfl ?_
  refine v_ca rfl ?_
  refine c_refusalOf hr.1 hn6 (fun z => absurd hin4 z) (fun _ z => absurd z (by decide)) (fun _ _ z => absurd z hn) (fun _ _ _ => ?_)
  refine v_go rfl ?_
  refine v_bT rfl rfl ?_
  refine v_go rfl ?_
  refine v_ca rfl ?_
  refine c_workOut (Or.inl rfl) hr ho (fun D3 hf3 hF => ?_)
  have e20 : D3 20 f = nI (p_wet S f S.1) := hF.2.2.1 f (by omega)
  refine v_go rfl ?_
  refine v_sd rfl hin4 ?_
  rw [hcl4, e20]
  refine v_go rfl ?_
  by_cases g : v ≤ p_wet S f S.1
  · have h := hge g D3 (fF hf3)
    refine v_bF rfl (nI_nlt g (by omega)) ?_
    refine v_go rfl ?_
    by_cases ew : w = 0
    · rw [if_pos ew] at h
      refine v_bF rfl (fun z => z ew) ?_
      exact v_go rfl (v_rt rfl trivial h)
    · rw [if_neg ew] at h
      refine v_bT rfl ew ?_
      exact v_go rfl (v_rt rfl trivial h)
  · refine v_bT rfl (nI_lt (by omega) (by omega)) ?_
    refine v_go rfl ?_
    refine v_ca rfl ?_
    refine c_become (relC_FT (fF hf3) hr) ho (fun D4 hf4 hr4 => ?_)
    exact v_run 2 rfl (key (by omega) 9 1 none D4 (by omega) (by omega) ((fF hf3).trans (fT hf4)) hr4 (fun b' l' q1 q2 q3 => absurd q2 (by omega)))
theorem c_apart {L d a b : Nat} {D : m_D} {Q : m_K} (hab : b < a) (ha : a < 2 ^ 31) (h : Q (some (.int (nI (a - b)))) D) : m_call L (d + 1) 140 [.int (nI a), .int (nI b)] D Q := by
  refine v_in (tb' := t_X5_apart) (rk' := 1) rfl rfl rfl ?_
  rw [← pk_sub (by omega)] at h
  refine v_go rfl ?_
  refine v_bF rfl (nI_ge hab (by omega)) ?_
  exact v_go rfl (v_rt rfl trivial h)
def msJ (S : SH) (f v l x : Nat) : Option (Nat × Nat) → Prop
  | none => ∀ l' x', (l' < l ∨ (l' = l ∧ x' < x)) → x' ≤ 9 → l' < S.1 → ¬ v ≤ p_W S f l' x'
  | some (b, l1) => 1 ≤ b ∧ p_R S f v b l1 ∧ l1 < S.1 ∧ l1 ≤ l ∧ ∀ l' x', (l' < l ∨ (l' = l ∧ x' < x)) → x' ≤ 9 → l' < S.1 → v ≤ p_W S f l' x' → b < x' - S.2.2.1 0 l' ∨ (b = x' - S.2.2.1 0 l' ∧ l1 ≤ l')
theorem msJ_up {S : SH} {f v l : Nat} : ∀ {c : Option (Nat × Nat)}, msJ S f v l 10 c → msJ S f v (l + 1) 0 c
  | none, h => fun l' x' q1 q2 q3 => h l' x' (by omega) q2 q3
  | some (b, l1), h => ⟨h.1, h.2.1, h.2.2.1, by have := h.2.2.2.1; omega, fun l' x' q1 q2 q3 q4 => h.2.2.2.2 l' x' (by omega) q2 q3 q4⟩
theorem msJ_no {S : SH} {f v l x : Nat} (hx : ¬ v ≤ p_W S f l x) : ∀ {c : Option (Nat × Nat)}, msJ S f v l x c → msJ S f v l (x + 1) c
  | none, h => fun l' x' q1 q2 q3 q4 => by
    by_cases e : l' = l ∧ x' = x
    · rw [e.1, e.2] at q4
      exact hx q4
    · exact h l' x' (by omega) q2 q3 q4
  | some (b, l1), h => ⟨h.1, h.2.1, h.2.2.1, h.2.2.2.1, fun l' x' q1 q2 q3 q4 => by
    by_cases e : l' = l ∧ x' = x
    · rw [e.1, e.2] at q4
      exact absurd q4 hx
    · exact h.2.2.2.2 l' x' (by omega) q2 q3 q4⟩
theorem msJ_worse {S : SH} {f v l x b l1 : Nat} (hx : b ≤ x - S.2.2.1 0 l) (h : msJ S f v l x (some (b, l1))) : msJ S f v l (x + 1) (some (b, l1)) := ⟨h.1, h.2.1, h.2.2.1, h.2.2.2.1, fun l' x' q1 q2 q3 q4 => by
  by_cases e : l' = l ∧ x' = x
  · have h1 := h.2.2.2.1
    rw [e.1, e.2]
    omega
  · exact h.2.2.2.2 l' x' (by omega) q2 q3 q4⟩
theorem msJ_new {S : SH} {f v l x : Nat} (hl : l < S.1) (hx9 : x ≤ 9) (hgt : S.2.2.1 0 l < x) (hx : v ≤ p_W S f l x) : ∀ {c : Option (Nat × Nat)}, msJ S f v l x c → (∀ b l1, c = some (b, l1) → x - S.2.2.1 0 l < b) → msJ S f v l (x + 1) (some (x - S.2.2.1 0 l, l))
  | none, h, _ => ⟨by omega, ⟨by omega, by rw [show S.2.2.1 0 l + (x - S.2.2.1 0 l) = x by omega]; exact hx⟩, hl, Nat.le_refl _, fun l' x' q1 q2 q3 q4 => by
    by_cases e : l' = l ∧ x' = x
    · rw [e.1, e.2]
      exact Or.inr ⟨rfl, Nat.le_refl _⟩
    · exact absurd q4 (h l' x' (by omega) q2 q3)⟩
  | some (b, l1), h, hb => ⟨by omega, ⟨by omega, by rw [show S.2.2.1 0 l + (x - S.2.2.1 0 l) = x by omega]; exact hx⟩, hl, Nat.le_refl _, fun l' x' q1 q2 q3 q4 => by
    by_cases e : l' = l ∧ x' = x
    · rw [e.1, e.2]
      exact Or.inr ⟨rfl, Nat.le_refl _⟩
    · have h1 := h.2.2.2.2 l' x' (by omega) q2 q3 q4
      have h2 := hb b l1 rfl
      exact Or.inl (by omega)⟩
theorem msJ_end {S : SH} {f v : Nat} : ∀ {c : Option (Nat × Nat)}, msJ S f v S.1 0 c → ms_is S f v c
  | none, h => fun b l q1 q2 q3 => h l (S.2.2.1 0 l + b) (Or.inl q2) q3.1 q2 q3.2
  | some (b, l1), h => ⟨h.1, h.2.2.1, h.2.1, fun b' l' q1 q2 q3 => by
    have h1 := h.2.2.2.2 l' (S.2.2.1 0 l' + b') (Or.inl q2) q3.1 q2 q3.2
    omega⟩
theorem y_mis {L f v : Nat} {w : Int32} {o : Option (Nat × Nat)} {S : SH} {D : m_D} {Q : m_K} (hr : relM D S) (ho : okS S) (hn : S.1 ≠ 0) (hk : S.2.1 ≠ 0) (hf4 : f < 4) (hv : v < 100) (hw : vp_in w 2) (hms : ms_is S f v o) (hge : v ≤ p_wet S f S.1 → ∀ D', m_fM z_MT [22] D D' → relM D' S → Q (some (.int (if w = 0 then 0 else -9))) D') (h : p_wet S f S.1 < v → ∀ D', m_fM z_MT [22] D D' → relM D' S → Q (some (.int (if w = 0 then lsB o else lsL o))) D') : m_call L 8 141 [.ref 34, .int (nI f), .int (nI v), .int w] D Q := by
  have hn6 := ho.1
  have hk3 := ho.2.1
  have hin4 : vp_in (nI f) 4 := vp_in_nI (by omega) (by omega)
  have h102 := p_wet_102 ho f
  have r1 : D 34 1 = nI S.1 := hr.1
  have r2 : D 34 2 = nI S.2.1 := hr.2.1
  have key : p_wet S f S.1 < v → ∀ (m l : Nat) (c : Option (Nat × Nat)) (t : m_Lc) (D1 : m_D), l + m = S.1 → (t = [none, none, none] ∨ ∃ (a b : Int32) (z : Option Value), t = [some (.int a), some (.int b), z]) → m_fM z_MT [22] D D1 → relM D1 S → msJ S f v l 0 c → m_V L 7 Q t_X5_misprint 1 (75, some (.ref 34) :: some (.int (nI f)) :: some (.int (nI v)) :: some (.int w) :: some (.int (lsB c)) :: some (.int (lsL c)) :: some (.int (nI l)) :: t, [], D1) := by
    intro hlt m
    have h := h hlt
    induction m with
    | zero =>
      intro l c t D1 hm ht hf hr1 hJ
      have hm : l = S.1 := by omega
      subst hm
      have e : o = c := ms_uni hms (msJ_end hJ)
      subst e
      have h := h D1 hf hr1
      have r1 : D1 34 1 = nI S.1 := hr1.1
      refine v_go rfl ?_
      rw [r1]
      refine v_bT rfl (Int32.le_refl _) ?_
      refine v_go rfl ?_
      by_cases ew : w = 0
      · rw [if_pos ew] at h
        refine v_bF rfl (fun z => z ew) ?_
        exact v_go rfl (v_rt rfl trivial h)
      · rw [if_neg ew] at h
        refine v_bT rfl ew ?_
        exact v_go rfl (v_rt rfl trivial h)
    | succ m ih =>
      intro l c t D1 hm ht hf hr1 hJ
      have hl : l < S.1 := by omega
      have r1 : D1 34 1 = nI S.1 := hr1.1
      have hin : vp_in (nI l) 6 := vp_in_nI (by omega) (by omega)
      have hcl : (nI l).toNatClampNeg = l := nI_clamp (by omega)
      have e35 : D1 35 l = nI (S.2.2.1 0 l) := (hr1.2.2.1 l hl).1
      have hd9 := (ho.2.2.1 l hl).1
      have inner : ∀ (q x : Nat) (c : Option (Nat × Nat)) (z : Option Value) (D2 : m_D), x + q = 10 → m_fM z_MT [22] D D2 → trU 0 l S D2 → msJ S f v l x c → m_V L 7 Q t_X5_misprint 1 (96, [some (.ref 34), some (.int (nI f)), some (.int (nI v)), some (.int w), some (.int (lsB c)), some (.int (lsL c)), some (.int (nI l)), some (.int (nI (S.2.2.1 0 l))), some (.int (nI x)), z], [], D2) := by
        intro q
        induction q with
        | zero =>
          intro x c z D2 hq hf2 ht2 hJ2
          have hq : x = 10 := by omega
          subst hq
          have hr3 : relM (m_up D2 35 l (nI (S.2.2.1 0 l))) (setT S 0 l (S.2.2.1 0 l)) := trU_up (i := 0) (by omega) ht2 _
          rw [setT_self] at hr3
          refine v_go rfl ?_
          refine v_bT rfl (by decide) ?_
          refine v_go rfl ?_
          refine v_sd rfl hin ?_
          rw [hcl]
          have ih := ih (l + 1) c [some (.int (nI (S.2.2.1 0 l))), some (.int (nI 10)), z] (m_up D2 35 l (nI (S.2.2.1 0 l))) (by omega) (Or.inr ⟨_, _, z, rfl⟩) (hf2.up (by simp) (by decide)) hr3 (msJ_up hJ2)
          rw [← nI_1] at ih
          exact v_run 2 rfl ih
        | succ q ih2 =>
          intro x c z D2 hq hf2 ht2 hJ2
          have hr3 : relM (m_up D2 35 l (nI x)) (setT S 0 l x) := trU_up (i := 0) (by omega) ht2 x
          have ho3 : okS (setT S 0 l x) := okS_setT ho ⟨fun _ => (by omega), fun z => (by omega), fun z => (by omega), fun z => (by omega), fun z => (by omega)⟩
          have hf3 : m_fM z_MT [22] D (m_up D2 35 l (nI x)) := hf2.up (by simp) (by decide)
          have hW : p_W S f l x ≤ 102 := p_wet_102 ho3 f
          refine v_go rfl ?_
          refine v_bF rfl (nI_nlt (a := 9) (b := x) (by omega) (by omega)) ?_
          refine v_go rfl ?_
          refine v_sd rfl hin ?_
          rw [hcl]
          refine v_go rfl ?_
          refine v_ca rfl ?_
          refine c_wetNow hr3 ho3 hf4 (fun D4 hf4 hF => ?_)
          have hfa := hf3.trans (mtR hf4)
          have ht4 : trU 0 l S D4 := trU_R hf4 hr3
          have no : msJ S f v l (x + 1) c → m_V L 7 Q t_X5_misprint 1 (142, [some (.ref 34), some (.int (nI f)), some (.int (nI v)), some (.int w), some (.int (lsB c)), some (.int (lsL c)), some (.int (nI l)), some (.int (nI (S.2.2.1 0 l))), some (.int (nI x)), z], [], D4) := by
            intro hJ3
            have ih2 := ih2 (x + 1) c (some (.int 0)) D4 (by omega) hfa ht4 hJ3
            rw [← nI_1] at ih2
            refine v_go rfl ?_
            refine v_bT rfl rfl ?_
            refine v_go rfl ?_
            refine v_bT rfl rfl ?_
            exact v_run 4 rfl ih2
          have yes : S.2.2.1 0 l < x → msJ S f v l (x + 1) (some (x - S.2.2.1 0 l, l)) → m_V L 7 Q t_X5_misprint 1 (138, [some (.ref 34), some (.int (nI f)), some (.int (nI v)), some (.int w), some (.int (lsB c)), some (.int (lsL c)), some (.int (nI l)), some (.int (nI (S.2.2.1 0 l))), some (.int (nI x)), z], [], D4) := by
            intro hgt hJ3
            have ih2 := ih2 (x + 1) (some (x - S.2.2.1 0 l, l)) (some (.int 1)) D4 (by omega) hfa ht4 hJ3
            rw [← nI_1] at ih2
            refine v_go rfl ?_
            refine v_bF rfl (by decide) ?_
            refine v_go rfl ?_
            refine v_bF rfl (by decide) ?_
            refine v_go rfl ?_
            refine v_ca rfl ?_
            refine c_apart hgt (by omega) ?_
            exact v_run 4 rfl ih2
          refine v_go rfl ?_
          by_cases g : v ≤ p_W S f l x
          · have hgt := W_gt hlt g
            refine v_bF rfl (nI_nlt (a := p_W S f l x) g (by omega)) ?_
            refine v_go rfl ?_
            match c, hJ2, no, yes with
            | none, hJ2, no, yes =>
              refine v_bT rfl (by decide) ?_
              exact yes hgt (msJ_new hl (by omega) hgt g hJ2 (fun b l1 e => by cases e))
            | some (b, l1), hJ2, no, yes =>
              have hb9 := hJ2.2.1.1
              refine v_bF rfl (nI_pos (n := b) (by omega)) ?_
              refine v_go rfl ?_
              refine v_ca rfl ?_
              refine c_apart hgt (by omega) ?_
              refine v_go rfl ?_
              by_cases g2 : b ≤ x - S.2.2.1 0 l
              · refine v_bT rfl (nI_le (a := b) g2 (by omega)) ?_
                exact no (msJ_worse g2 hJ2)
              · refine v_bF rfl (nI_ge (b := b) (by omega) (by omega)) ?_
                exact yes hgt (msJ_new hl (by omega) hgt g hJ2 (fun b' l1' e => by
                  cases e
                  omega))
          · refine v_bT rfl (nI_lt (a := p_W S f l x) (by omega) (by omega)) ?_
            exact no (msJ_no g hJ2)
      rcases ht with rfl | ⟨a, b, z, rfl⟩
      · refine v_go rfl ?_
        rw [r1]
        refine v_bF rfl (nI_ge (by omega) (by omega)) ?_
        refine v_go rfl ?_
        refine v_sd rfl hin ?_
        rw [hcl, e35]
        exact v_run 3 rfl (inner 10 0 c none D1 (by omega) hf (trU_0 hr1) hJ)
      · refine v_go rfl ?_
        rw [r1]
        refine v_bF rfl (nI_ge (by omega) (by omega)) ?_
        refine v_go rfl ?_
        refine v_sd rfl hin ?_
        rw [hcl, e35]
        exact v_run 3 rfl (inner 10 0 c z D1 (by omega) hf (trU_0 hr1) hJ)
  refine v_in (tb' := t_X5_misprint) (rk' := 1) rfl rfl rfl ?_
  refine v_go rfl ?_
  refine v_ca rfl ?_
  refine c_noField (fun _ => ?_) (fun z => absurd hin4 z)
  refine v_go rfl ?_
  refine v_bT rfl rfl ?_
  refine v_go rfl ?_
  refine v_ca rfl ?_
  refine c_in (fun _ _ => ?_) (fun z => absurd ((in_iff (n := 100) (by decide)).mpr (vp_in_nI (by omega) (by omega))) z)
  refine v_go rfl ?_
  refine v_bF rfl (by decide) ?_
  refine v_go rfl ?_
  refine v_ca rfl ?_
  refine c_in (fun _ _ => ?_) (fun z => absurd ((in_iff (n := 2) (by decide)).mpr hw) z)
  refine v_go rfl ?_
  refine v_bT rfl (by decide) ?_
  refine v_go rfl ?_
  rw [r2]
  refine v_bT rfl (nI_ne0 (by omega) (by omega)) ?_
  refine v_go rfl ?_
  refine v_ca rfl ?_
  refine c_wetNow hr ho hf4 (fun D3 hf3 hF => ?_)
  have hr3 := relM_keep hf3 (by decide) (by decide) hr
  refine v_go rfl ?_
  by_cases g : v ≤ p_wet S f S.1
  · have h := hge g D3 (mtR hf3) hr3
    refine v_bF rfl (nI_nlt g (by omega)) ?_
    refine v_go rfl ?_
    by_cases ew : w = 0
    · rw [if_pos ew] at h
      refine v_bF rfl (fun z => z ew) ?_
      exact v_go rfl (v_rt rfl trivial h)
    · rw [if_neg ew] at h
      refine v_bT rfl ew ?_
      exact v_go rfl (v_rt rfl trivial h)
  · refine v_bT rfl (nI_lt (by omega) (by omega)) ?_
    exact v_run 6 rfl (key (by omega) S.1 0 none _ D3 (by omega) (Or.inl rfl) (mtR hf3) hr3 (fun l' x' q1 q2 q3 => absurd q1 (by omega)))
theorem s_misprint (x y w : Int32) : StepI 50 141 [.int x, .int y, .int w] := by
  intro L Z hz
  obtain ⟨S, rd, sh, tr, fl⟩ := Z
  have hoS : okS S := hz.1
  have hn6 : S.1 ≤ 6 := hoS.1
  have hnk : S.1 = 0 ↔ S.2.1 = 0 := hz.2.1
  have hk3 : S.2.1 ≤ 3 := hoS.2.1
  by_cases hx : vp_in x 4
  · by_cases hyw : vp_in y 100 ∧ vp_in w 2
    · obtain ⟨hy, hw⟩ := hyw
      by_cases hn : S.1 = 0
      · have hk : S.2.1 = 0 := hnk.mp hn
        refine ⟨-3, (S, rd, sh, tr, fl), hz, fun D Q hI h => ?_, fun D Q hI h => ?_⟩
        · refine v_in (tb' := t_X4_misprint) (rk' := 1) rfl rfl rfl ?_
          refine v_go rfl ?_
          refine v_ca rfl ?_
          refine c_isWithin (n := 99) (by omega) (fun _ => ?_) (fun z => absurd hy z)
          refine v_go rfl ?_
          refine v_bF rfl (by decide) ?_
          refine v_go rfl ?_
          refine v_ca rfl ?_
          refine c_isWithin (n := 1) (by omega) (fun _ => ?_) (fun z => absurd hw z)
          refine v_go rfl ?_
          refine v_bF rfl (by decide) ?_
          refine v_go rfl ?_
          refine v_ca rfl ?_
          refine c_refusalOf hI.1.1 hn6 (fun z => absurd hx z) (fun _ z => absurd z (by decide)) (fun _ _ _ => ?_) (fun _ _ z => absurd hn z)
          refine v_go rfl ?_
          refine v_bF rfl (by decide) ?_
          exact v_go rfl (v_rt rfl trivial (h _ (frC.refl _) hI))
        · have r2 : D 34 2 = nI 0 := by rw [← hk]; exact hI.1.2.1
          refine v_in (tb' := t_X5_misprint) (rk' := 1) rfl rfl rfl ?_
          refine v_go rfl ?_
          refine v_ca rfl ?_
          refine c_noField (fun _ => ?_) (fun z => absurd hx z)
          refine v_go rfl ?_
          refine v_bT rfl rfl ?_
          refine v_go rfl ?_
          refine v_ca rfl ?_
          refine c_in (fun _ _ => ?_) (fun z => absurd ((in_iff (n := 100) (by decide)).mpr hy) z)
          refine v_go rfl ?_
          refine v_bF rfl (by decide) ?_
          refine v_go rfl ?_
          refine v_ca rfl ?_
          refine c_in (fun _ _ => ?_) (fun z => absurd ((in_iff (n := 2) (by decide)).mpr hw) z)
          refine v_go rfl ?_
          refine v_bT rfl (by decide) ?_
          refine v_go rfl ?_
          rw [r2]
          refine v_bF rfl (fun z => z rfl) ?_
          exact v_go rfl (v_rt rfl trivial (h _ (frM.refl _) hI))
      · have hk : S.2.1 ≠ 0 := fun z => hn (hnk.mpr z)
        obtain ⟨f, hf, rfl⟩ := vp_in_of hx (by omega)
        obtain ⟨v, hv, rfl⟩ := vp_in_of hy (by omega)
        obtain ⟨o, hms⟩ := ms_ex S f v
        by_cases g : v ≤ p_wet S f S.1
        · refine ⟨if w = 0 then 0 else -9, (S, rd, sh, tr, fl), hz, fun D Q hI h => ?_, fun D Q hI h => ?_⟩
          · exact x_mis hI.1 hoS hn hf hv hw hms (fun _ D' hf => h D' (frC_FT hf) (InvC_FT hI hf)) (fun z => absurd g (Nat.not_le_of_lt z))
          · exact y_mis hI.1 hoS hn hk hf hv hw hms (fun _ D' hf hr => h D' (frM_MT hf) (InvM_MT hI hr hf)) (fun z => absurd g (Nat.not_le_of_lt z))
        · refine ⟨if w = 0 then lsB o else lsL o, (S, rd, sh, tr, fl), hz, fun D Q hI h => ?_, fun D Q hI h => ?_⟩
          · exact x_mis hI.1 hoS hn hf hv hw hms (fun z => absurd z g) (fun _ D' hf => h D' (frC_FT hf) (InvC_FT hI hf))
          · exact y_mis hI.1 hoS hn hk hf hv hw hms (fun z => absurd z g) (fun _ D' hf hr => h D' (frM_MT hf) (InvM_MT hI hr hf))
    · refine ⟨-2, (S, rd, sh, tr, fl), hz, fun D Q hI h => ?_, fun D Q hI h => ?_⟩
      · have h := h _ (frC.refl _) hI
        have tail : m_V L 7 Q t_X4_misprint 1 (24, [some (.ref 0), some (.int x), some (.int y), some (.int w), none, none, none], [.int 0, .int x, .ref 0], D) := by
          refine v_ca rfl ?_
          refine c_refusalOf hI.1.1 hn6 (fun z => absurd hx z) (fun _ _ => ?_) (fun _ z _ => absurd rfl z) (fun _ z _ => absurd rfl z)
          refine v_go rfl ?_
          refine v_bF rfl (by decide) ?_
          exact v_go rfl (v_rt rfl trivial h)
        refine v_in (tb' := t_X4_misprint) (rk' := 1) rfl rfl rfl ?_
        refine v_go rfl ?_
        refine v_ca rfl ?_
        refine c_isWithin (n := 99) (by omega) (fun z1 => ?_) (fun _ => ?_)
        · refine v_go rfl ?_
          refine v_bF rfl (by decide) ?_
          refine v_go rfl ?_
          refine v_ca rfl ?_
          refine c_isWithin (n := 1) (by omega) (fun z2 => absurd ⟨z1, z2⟩ hyw) (fun _ => ?_)
          refine v_go rfl ?_
          refine v_bT rfl rfl ?_
          exact v_go rfl tail
        · refine v_go rfl ?_
          refine v_bT rfl rfl ?_
          exact v_go rfl tail
      · have h := h _ (frM.refl _) hI
        refine v_in (tb' := t_X5_misprint) (rk' := 1) rfl rfl rfl ?_
        refine v_go rfl ?_
        refine v_ca rfl ?_
        refine c_noField (fun _ => ?_) (fun z => absurd hx z)
        refine v_go rfl ?_
        refine v_bT rfl rfl ?_
        refine v_go rfl ?_
        refine v_ca rfl ?_
        refine c_in (fun p1 p2 => ?_) (fun _ => ?_)
        · have z1 := (in_iff (n := 100) (by decide)).mp ⟨p1, p2⟩
          refine v_go rfl ?_
          refine v_bF rfl (by decide) ?_
          refine v_go rfl ?_
          refine v_ca rfl ?_
          refine c_in (fun p1 p2 => absurd ⟨z1, (in_iff (n := 2) (by decide)).mp ⟨p1, p2⟩⟩ hyw) (fun _ => ?_)
          refine v_go rfl ?_
          refine v_bF rfl (by decide) ?_
          exact v_go rfl (v_rt rfl trivial h)
        · refine v_go rfl ?_
          refine v_bT rfl rfl ?_
          exact v_go rfl (v_rt rfl trivial h)
  · refine ⟨-1, (S, rd, sh, tr, fl), hz, fun D Q hI h => ?_, fun D Q hI h => ?_⟩
    · have h := h _ (frC.refl _) hI
      have tail : ∀ b : Int32, m_V L 7 Q t_X4_misprint 1 (24, [some (.ref 0), some (.int x), some (.int y), some (.int w), none, none, none], [.int b, .int x, .ref 0], D) := by
        intro b
        refine v_ca rfl ?_
        refine c_refusalOf hI.1.1 hn6 (fun _ => ?_) (fun z _ => absurd z hx) (fun z _ _ => absurd z hx) (fun z _ _ => absurd z hx)
        refine v_go rfl ?_
        refine v_bF rfl (by decide) ?_
        exact v_go rfl (v_rt rfl trivial h)
      refine v_in (tb' := t_X4_misprint) (rk' := 1) rfl rfl rfl ?_
      refine v_go rfl ?_
      refine v_ca rfl ?_
      refine c_isWithin (n := 99) (by omega) (fun z1 => ?_) (fun _ => ?_)
      · refine v_go rfl ?_
        refine v_bF rfl (by decide) ?_
        refine v_go rfl ?_
        refine v_ca rfl ?_
        refine c_isWithin (n := 1) (by omega) (fun z2 => ?_) (fun _ => ?_)
        · refine v_go rfl ?_
          refine v_bF rfl (by decide) ?_
          exact v_go rfl (tail 1)
        · refine v_go rfl ?_
          refine v_bT rfl rfl ?_
          exact v_go rfl (tail 0)
      · refine v_go rfl ?_
        refine v_bT rfl rfl ?_
        exact v_go rfl (tail 0)
    · refine v_in (tb' := t_X5_misprint) (rk' := 1) rfl rfl rfl ?_
      refine v_go rfl ?_
      refine v_ca rfl ?_
      refine c_noField (fun z => absurd z hx) (fun _ => ?_)
      refine v_go rfl ?_
      refine v_bF rfl (by decide) ?_
      exact v_go rfl (v_rt rfl trivial (h _ (frM.refl _) hI))
end
section
/-! ===== rests ===== -/
theorem rs4 : ∀ b0 b1 b2 b3 : Bool, ∀ f g w : Fin 4, f ≠ g → (((nI ((((0 + if b0 then 2 ^ 0 else 0) + if b1 then 2 ^ 1 else 0) + if b2 then 2 ^ 2 else 0) + if b3 then 2 ^ 3 else 0) &&& ((((1 : Int32) <<< (nI f.val &&& 31)) ||| ((1 : Int32) <<< (nI g.val &&& 31))) ^^^ (-1 : Int32))) ||| ((nI w.val &&& (1 : Int32)) <<< (nI f.val &&& 31))) ||| (((nI w.val >>> ((1 : Int32) &&& 31)) &&& (1 : Int32)) <<< (nI g.val &&& 31))) = nI ((((0 + if (if 0 = f.val then bitN w.val 0 else if 0 = g.val then bitN w.val 1 else b0) then 2 ^ 0 else 0) + if (if 1 = f.val then bitN w.val 0 else if 1 = g.val then bitN w.val 1 else b1) then 2 ^ 1 else 0) + if (if 2 = f.val then bitN w.val 0 else if 2 = g.val then bitN w.val 1 else b2) then 2 ^ 2 else 0) + if (if 3 = f.val then bitN w.val 0 else if 3 = g.val then bitN w.val 1 else b3) then 2 ^ 3 else 0) := by decide +kernel
def rsC (b : Nat → Bool) (f g w a : Nat) : Bool := if a = f then bitN w 0 else if a = g then bitN w 1 else b a
theorem rest4 (b : Nat → Bool) {f g w : Nat} (hf : f < 4) (hg : g < 4) (hw : w < 4) (hne : f ≠ g) : (((nI (b_sum b 4) &&& ((((1 : Int32) <<< (nI f &&& 31)) ||| ((1 : Int32) <<< (nI g &&& 31))) ^^^ (-1 : Int32))) ||| ((nI w &&& (1 : Int32)) <<< (nI f &&& 31))) ||| (((nI w >>> ((1 : Int32) &&& 31)) &&& (1 : Int32)) <<< (nI g &&& 31))) = nI (b_sum (rsC b f g w) 4) := rs4 (b 0) (b 1) (b 2) (b 3) ⟨f, hf⟩ ⟨g, hg⟩ ⟨w, hw⟩ (fun e => hne (congrArg Fin.val e))
theorem rs6a : ∀ b0 b1 b2 b3 b4 b5 : Bool, ∀ t : Fin 6, ∀ w : Fin 4, (nI ((((((0 + if b0 then 2 ^ 0 else 0) + if b1 then 2 ^ 1 else 0) + if b2 then 2 ^ 2 else 0) + if b3 then 2 ^ 3 else 0) + if b4 then 2 ^ 4 else 0) + if b5 then 2 ^ 5 else 0) &&& ((63 : Int32) - ((1 : Int32) <<< (nI t.val &&& 31)))) ||| ((nI w.val &&& (1 : Int32)) <<< (nI t.val &&& 31)) = nI ((((((0 + if (if 0 = t.val then bitN w.val 0 else b0) then 2 ^ 0 else 0) + if (if 1 = t.val then bitN w.val 0 else b1) then 2 ^ 1 else 0) + if (if 2 = t.val then bitN w.val 0 else b2) then 2 ^ 2 else 0) + if (if 3 = t.val then bitN w.val 0 else b3) then 2 ^ 3 else 0) + if (if 4 = t.val then bitN w.val 0 else b4) then 2 ^ 4 else 0) + if (if 5 = t.val then bitN w.val 0 else b5) then 2 ^ 5 else 0) := by decide +kernel
theorem rs6b : ∀ b0 b1 b2 b3 b4 b5 : Bool, ∀ t : Fin 6, ∀ w : Fin 4, (nI ((((((0 + if b0 then 2 ^ 0 else 0) + if b1 then 2 ^ 1 else 0) + if b2 then 2 ^ 2 else 0) + if b3 then 2 ^ 3 else 0) + if b4 then 2 ^ 4 else 0) + if b5 then 2 ^ 5 else 0) &&& ((63 : Int32) - ((1 : Int32) <<< (nI t.val &&& 31)))) ||| ((nI w.val >>> ((1 : Int32) &&& 31)) <<< (nI t.val &&& 31)) = nI ((((((0 + if (if 0 = t.val then bitN w.val 1 else b0) then 2 ^ 0 else 0) + if (if 1 = t.val then bitN w.val 1 else b1) then 2 ^ 1 else 0) + if (if 2 = t.val then bitN w.val 1 else b2) then 2 ^ 2 else 0) + if (if 3 = t.val then bitN w.val 1 else b3) then 2 ^ 3 else 0) + if (if 4 = t.val then bitN w.val 1 else b4) then 2 ^ 4 else 0) + if (if 5 = t.val then bitN w.val 1 else b5) then 2 ^ 5 else 0) := by decide +kernel
def rsR (b : Nat → Bool) (t : Nat) (v : Bool) (a : Nat) : Bool := if a = t then v else b a
theorem rest6a (b : Nat → Bool) {t w : Nat} (ht : t < 6) (hw : w < 4) : (nI (b_sum b 6) &&& ((63 : Int32) - ((1 : Int32) <<< (nI t &&& 31)))) ||| ((nI w &&& (1 : Int32)) <<< (nI t &&& 31)) = nI (b_sum (rsR b t (bitN w 0)) 6) := rs6a (b 0) (b 1) (b 2) (b 3) (b 4) (b 5) ⟨t, ht⟩ ⟨w, hw⟩
theorem rest6b (b : Nat → Bool) {t w : Nat} (ht : t < 6) (hw : w < 4) : (nI (b_sum b 6) &&& ((63 : Int32) - ((1 : Int32) <<< (nI t &&& 31)))) ||| ((nI w >>> ((1 : Int32) &&& 31)) <<< (nI t &&& 31)) = nI (b_sum (rsR b t (bitN w 1)) 6) := rs6b (b 0) (b 1) (b 2) (b 3) (b 4) (b 5) ⟨t, ht⟩ ⟨w, hw⟩
def rsS (S : SH) (f g t w : Nat) : SH := (S.1, S.2.1, S.2.2.1, fun a b => if b = t then rsC (fun a => S.2.2.2 a t) f g w a else S.2.2.2 a b)
theorem okS_rs {S : SH} {f g t w : Nat} (ho : okS S) : okS (rsS S f g t w) := ho
def trR (S : SH) (t : Nat) (D : m_D) : Prop := ∃ cg, relC 8 D (S.1, S.2.1, S.2.2.1, cg) ∧ ∀ a b, b ≠ t → cg a b = S.2.2.2 a b
theorem relC_rs {S : SH} {f g t w : Nat} {D : m_D} (h : trR S t D) : relC 8 (m_up D 14 t (nI (b_sum (rsC (fun a => S.2.2.2 a t) f g w) 4))) (rsS S f g t w) := by
  obtain ⟨cg, ⟨h1, h2, h3, h4, h5⟩, hc⟩ := h
  refine ⟨h1, h2, h3, h4, fun b hb => ?_⟩
  by_cases e : b = t
  · have e1 : (fun a => (rsS S f g t w).2.2.2 a b) = rsC (fun a => S.2.2.2 a t) f g w := by
      funext a
      exact if_pos e
    rw [e1, e]
    exact m_up_s
  · have e1 : (fun a => (rsS S f g t w).2.2.2 a b) = fun a => cg a b := by
      funext a
      rw [hc a b e]
      exact if_neg e
    rw [e1]
    exact (m_up_n e).trans (h5 b hb)
theorem trR_0 {S : SH} {t : Nat} {D : m_D} (h : relC 8 D S) : trR S t D := ⟨S.2.2.2, h, fun _ _ _ => rfl⟩
theorem trR_F {S : SH} {f g t w : Nat} {D D' : m_D} (hf : m_fr z_F D D') (h : relC 8 D (rsS S f g t w)) : trR S t D' := ⟨_, relC_c (fun i hi => hf _ (z_F_B (Or.inr rfl) i hi)) h, fun a b hb => if_neg hb⟩
theorem c_coughIn {L d f g t w : Nat} {S : SH} {D : m_D} {Q : m_K} (hr1 : relC 1 D S) (ht : trR S t D) (ho : okS S) (hf4 : f < 4) (hg4 : g < 4) (hfg : f ≠ g) (ht6 : t < 6) (hw : w < 4) (h : ∀ D', m_fr z_FT D D' → trR S t D' → (∀ a, a < 4 → D' 20 a = nI (p_wet (rsS S f g t w) a S.1)) → Q none D') : m_call L (d + 5) 55 [.ref 0, .int (nI f), .int (nI g), .int (nI t), .int (nI w)] D Q := by
  have hin : vp_in (nI t) 6 := vp_in_nI (by omega) (by omega)
  have hcl : (nI t).toNatClampNeg = t := nI_clamp (by omega)
  have e7 : D 7 t = nI (b_sum (fun a => S.2.2.2 a t) 4) := hr1.2.2.2.2 t ht6
  refine v_in (tb' := t_X4_coughInTrial) (rk' := 0) rfl rfl rfl ?_
  refine v_go rfl ?_
  refine v_sd rfl hin ?_
  rw [hcl, e7]
  refine v_go rfl ?_
  refine v_sd rfl hin ?_
  rw [hcl, rest4 _ hf4 hg4 hw hfg]
  refine v_go rfl ?_
  refine v_ca rfl ?_
  have hr2 : relC 8 (m_up D 14 t (nI (b_sum (rsC (fun a => S.2.2.2 a t) f g w) 4))) (rsS S f g t w) := relC_rs ht
  refine c_workOut (Or.inr rfl) hr2 (okS_rs ho) (fun D3 hf3 hF => ?_)
  have hf0 : m_fr z_FT D D := m_fr.refl _ _
  exact v_rt rfl trivial (h D3 ((hf0.up (by simp)).trans (fF hf3)) (trR_F hf3 hr2) hF.2.2.1)
def p_pain (S : SH) (f g t w a : Nat) : Nat := p_wet (rsS S f g t w) a S.1 + (if (rsS S f g t w).2.2.2 a t = true then 2 else 0)
theorem rs_f (S : SH) (f g t w : Nat) : (rsS S f g t w).2.2.2 f t = bitN w 0 := by
  show (if t = t then rsC (fun a => S.2.2.2 a t) f g w f else S.2.2.2 f t) = bitN w 0
  rw [if_pos rfl]
  exact if_pos rfl
theorem rs_g (S : SH) {f g : Nat} (t w : Nat) (h : f ≠ g) : (rsS S f g t w).2.2.2 g t = bitN w 1 := by
  show (if t = t then rsC (fun a => S.2.2.2 a t) f g w g else S.2.2.2 g t) = bitN w 1
  rw [if_pos rfl]
  show (if g = f then bitN w 0 else if g = g then bitN w 1 else _) = _
  rw [if_neg (fun e => h e.symm), if_pos rfl]
theorem w_and1 : ∀ w, w < 4 → (nI w &&& (1 : Int32)) = if bitN w 0 = true then 1 else 0 := by decide +kernel
theorem w_and2 : ∀ w, w < 4 → (nI w &&& (2 : Int32)) = if bitN w 1 = true then 2 else 0 := by decide +kernel
theorem w_x1 : ∀ w, w < 4 → nI w ^^^ (1 : Int32) = nI (w ^^^ 1) ∧ w ^^^ 1 < 4 := by decide +kernel
theorem w_x2 : ∀ w, w < 4 → nI w ^^^ (2 : Int32) = nI (w ^^^ 2) ∧ w ^^^ 2 < 4 := by decide +kernel
theorem pain_le {S : SH} (ho : okS S) (f g t w a : Nat) : p_pain S f g t w a ≤ 104 := by
  have h : p_wet (rsS S f g t w) a S.1 ≤ 102 := p_wet_102 (okS_rs ho) a
  unfold p_pain
  split <;> omega
theorem c_pain1 {L d f g t w : Nat} {S : SH} {D : m_D} {Q : m_K} (hr1 : relC 1 D S) (ht : trR S t D) (ho : okS S) (hf4 : f < 4) (hg4 : g < 4) (hfg : f ≠ g) (ht6 : t < 6) (hw : w < 4) (h : ∀ D', m_fr z_FT D D' → trR S t D' → Q (some (.int (nI (p_pain S f g t w f)))) D') : m_call L (d + 6) 53 [.ref 0, .int (nI f), .int (nI g), .int (nI t), .int (nI w)] D Q := by
  have hin : vp_in (nI f) 4 := vp_in_nI (by omega) (by omega)
  have hcl : (nI f).toNatClampNeg = f := nI_clamp (by omega)
  refine v_in (tb' := t_X4_painOfFirst) (rk' := 1) rfl rfl rfl ?_
  refine v_go rfl ?_
  refine v_ca rfl ?_
  refine c_coughIn hr1 ht ho hf4 hg4 hfg ht6 hw (fun D2 hf2 ht2 hF => ?_)
  have h := h D2 hf2 ht2
  unfold p_pain at h
  rw [rs_f, ← nI_add] at h
  refine v_go rfl ?_
  refine v_sd rfl hin ?_
  rw [hcl, hF f hf4]
  refine v_go rfl ?_
  rw [w_and1 w hw]
  cases hb : bitN w 0 with
  | true =>
    rw [hb] at h
    refine v_bF rfl (fun z => z rfl) ?_
    exact v_go rfl (v_rt rfl trivial h)
  | false =>
    rw [hb] at h
    refine v_bT rfl (by decide) ?_
    exact v_go rfl (v_rt rfl trivial h)
theorem c_pain2 {L d f g t w : Nat} {S : SH} {D : m_D} {Q : m_K} (hr1 : relC 1 D S) (ht : trR S t D) (ho : okS S) (hf4 : f < 4) (hg4 : g < 4) (hfg : f ≠ g) (ht6 : t < 6) (hw : w < 4) (h : ∀ D', m_fr z_FT D D' → trR S t D' → Q (some (.int (nI (p_pain S f g t w g)))) D') : m_call L (d + 6) 54 [.ref 0, .int (nI f), .int (nI g), .int (nI t), .int (nI w)] D Q := by
  have hin : vp_in (nI g) 4 := vp_in_nI (by omega) (by omega)
  have hcl : (nI g).toNatClampNeg = g := nI_clamp (by omega)
  refine v_in (tb' := t_X4_painOfSecond) (rk' := 1) rfl rfl rfl ?_
  refine v_go rfl ?_
  refine v_ca rfl ?_
  refine c_coughIn hr1 ht ho hf4 hg4 hfg ht6 hw (fun D2 hf2 ht2 hF => ?_)
  have h := h D2 hf2 ht2
  unfold p_pain at h
  rw [rs_g S t w hfg, ← nI_add] at h
  refine v_go rfl ?_
  refine v_sd rfl hin ?_
  rw [hcl, hF g hg4]
  refine v_go rfl ?_
  rw [w_and2 w hw]
  cases hb : bitN w 1 with
  | true =>
    rw [hb] at h
    refine v_bF rfl (fun z => z rfl) ?_
    exact v_go rfl (v_rt rfl trivial h)
  | false =>
    rw [hb] at h
    refine v_bT rfl (by decide) ?_
    exact v_go rfl (v_rt rfl trivial h)
def p_rs (S : SH) (f g t : Nat) : Nat → Int32
  | 0 => 0
  | w + 1 => p_rs S f g t w ||| (if p_pain S f g t w f ≤ p_pain S f g t (w ^^^ 1) f ∧ p_pain S f g t w g ≤ p_pain S f g t (w ^^^ 2) g then (1 : Int32) <<< (nI w &&& 31) else (0 : Int32))
theorem x_rests {L f g t : Nat} {S : SH} {D : m_D} {Q : m_K} (hr : relC 1 D S) (ho : okS S) (hn : S.1 ≠ 0) (hf4 : f < 4) (hg4 : g < 4) (hfg : f ≠ g) (ht6 : t < 6) (h : ∀ D', m_fr z_FT D D' → Q (some (.int (p_rs S f g t 4))) D') : m_call L 8 52 [.ref 0, .int (nI f), .int (nI g), .int (nI t)] D Q := by
  have hn6 := ho.1
  have hinf : vp_in (nI f) 4 := vp_in_nI (by omega) (by omega)
  have hing : vp_in (nI g) 4 := vp_in_nI (by omega) (by omega)
  have key : ∀ (m w : Nat) (z7 z8 : Option Value) (D1 : m_D), w + m = 4 → m_fr z_FT D D1 → trR S t D1 → m_V L 7 Q t_X4_rests 1 (57, [some (.ref 0), some (.int (nI f)), some (.int (nI g)), some (.int (nI t)), some (.int 0), some (.int (p_rs S f g t w)), some (.int (nI w)), z7, z8], [], D1) := by
    intro m
    induction m with
    | zero =>
      intro w z7 z8 D1 hm hf ht
      have hm : w = 4 := by omega
      subst hm
      refine v_go rfl ?_
      refine v_bT rfl (Int32.le_refl _) ?_
      exact v_go rfl (v_rt rfl trivial (h D1 hf))
    | succ m ih =>
      intro w z7 z8 D1 hm hf ht
      have hw : w < 4 := by omega
      obtain ⟨x1, y1⟩ := w_x1 w hw
      obtain ⟨x2, y2⟩ := w_x2 w hw
      have q1 := pain_le ho f g t w f
      have q2 := pain_le ho f g t (w ^^^ 1) f
      have q3 := pain_le ho f g t w g
      have q4 := pain_le ho f g t (w ^^^ 2) g
      have e : p_rs S f g t (w + 1) = p_rs S f g t w ||| (if p_pain S f g t w f ≤ p_pain S f g t (w ^^^ 1) f ∧ p_pain S f g t w g ≤ p_pain S f g t (w ^^^ 2) g then (1 : Int32) <<< (nI w &&& 31) else (0 : Int32)) := rfl
      refine v_go rfl ?_
      refine v_bF rfl (nI_ge (b := 4) (by omega) (by omega)) ?_
      refine v_go rfl ?_
      refine v_ca rfl ?_
      refine c_pain1 (relC_FT hf hr) ht ho hf4 hg4 hfg ht6 hw (fun D2 hf2 ht2 => ?_)
      have hfa := hf.trans hf2
      refine v_go rfl ?_
      refine v_ca rfl ?_
      rw [x1]
      refine c_pain1 (relC_FT hfa hr) ht2 ho hf4 hg4 hfg ht6 y1 (fun D3 hf3 ht3 => ?_)
      have hfb := hfa.trans hf3
      refine v_go rfl ?_
      have sec : ∀ s1 : Int32, (s1 = 1 ∧ p_pain S f g t w f ≤ p_pain S f g t (w ^^^ 1) f) ∨ (s1 = 0 ∧ ¬ p_pain S f g t w f ≤ p_pain S f g t (w ^^^ 1) f) → m_V L 7 Q t_X4_rests 1 (93, [some (.ref 0), some (.int (nI f)), some (.int (nI g)), some (.int (nI t)), some (.int 0), some (.int (p_rs S f g t w)), some (.int (nI w)), some (.int s1), z8], [], D3) := by
        intro s1 hs1
        refine v_go rfl ?_
        refine v_ca rfl ?_
        refine c_pain2 (relC_FT hfb hr) ht3 ho hf4 hg4 hfg ht6 hw (fun D4 hf4' ht4 => ?_)
        have hfc := hfb.trans hf4'
        refine v_go rfl ?_
        refine v_ca rfl ?_
        rw [x2]
        refine c_pain2 (relC_FT hfc hr) ht4 ho hf4 hg4 hfg ht6 y2 (fun D5 hf5 ht5 => ?_)
        have hfd := hfc.trans hf5
        have ih := fun z8 => ih (w + 1) (some (.int s1)) z8 D5 (by omega) hfd ht5
        rw [← nI_1, e] at ih
        refine v_go rfl ?_
        by_cases g2 : p_pain S f g t w g ≤ p_pain S f g t (w ^^^ 2) g
        · refine v_bF rfl (nI_nlt (a := p_pain S f g t (w ^^^ 2) g) g2 (by omega)) ?_
          refine v_go rfl ?_
          rcases hs1 with ⟨rfl, g1⟩ | ⟨rfl, g1⟩
          · rw [if_pos ⟨g1, g2⟩] at ih
            refine v_bF rfl (by decide) ?_
            refine v_go rfl ?_
            refine v_bF rfl (by decide) ?_
            exact v_run 8 rfl (ih _)
          · rw [if_neg (fun z => g1 z.1), or0] at ih
            refine v_bT rfl rfl ?_
            exact v_run 2 rfl (ih _)
        · rw [if_neg (fun z => g2 z.2), or0] at ih
          refine v_bT rfl (nI_lt (b := p_pain S f g t w g) (by omega) (by omega)) ?_
          refine v_go rfl ?_
          rcases hs1 with ⟨rfl, g1⟩ | ⟨rfl, g1⟩
          · refine v_bF rfl (by decide) ?_
            refine v_go rfl ?_
            refine v_bT rfl rfl ?_
            exact v_run 2 rfl (ih _)
          · refine v_bT rfl rfl ?_
            exact v_run 2 rfl (ih _)
      by_cases g1 : p_pain S f g t w f ≤ p_pain S f g t (w ^^^ 1) f
      · refine v_bF rfl (nI_nlt (a := p_pain S f g t (w ^^^ 1) f) g1 (by omega)) ?_
        exact v_run 3 rfl (sec 1 (Or.inl ⟨rfl, g1⟩))
      · refine v_bT rfl (nI_lt (b := p_pain S f g t w f) (by omega) (by omega)) ?_
        exact v_run 2 rfl (sec 0 (Or.inr ⟨rfl, g1⟩))
  refine v_in (tb' := t_X4_rests) (rk' := 1) rfl rfl rfl ?_
  refine v_go rfl ?_
  refine v_ca rfl ?_
  refine c_isField (fun _ => ?_) (fun z => absurd hinf z)
  refine v_go rfl ?_
  refine v_bF rfl (by decide) ?_
  refine v_go rfl ?_
  refine v_ca rfl ?_
  refine c_isField (fun _ => ?_) (fun z => absurd hing z)
  refine v_go rfl ?_
  refine v_bF rfl (by decide) ?_
  refine v_go rfl ?_
  refine v_bT rfl (fun z => hfg ((nI_eq (by omega) (by omega)).mp z)) ?_
  refine v_go rfl ?_
  refine v_ca rfl ?_
  refine c_isHour (fun _ => ?_) (fun z => absurd (vp_in_nI (by omega) (by omega)) z)
  refine v_ca rfl ?_
  refine c_refusalOf hr.1 hn6 (fun z => absurd hinf z) (fun _ z => absurd z (by decide)) (fun _ _ z => absurd z hn) (fun _ _ _ => ?_)
  refine v_go rfl ?_
  refine v_bT rfl rfl ?_
  refine v_go rfl ?_
  refine v_ca rfl ?_
  refine c_become hr ho (fun D1 hf1 hr1 => ?_)
  exact v_run 4 rfl (key 4 0 none none D1 (by omega) (fT hf1) (trR_0 hr1))
theorem relM_rs {S : SH} {f g t w : Nat} {D : m_D} (h : relM D S) (hfg : f ≠ g) : relM (m_up (m_up D 40 f (nI (b_sum (rsR (fun b => S.2.2.2 f b) t (bitN w 0)) 6))) 40 g (nI (b_sum (rsR (fun b => S.2.2.2 g b) t (bitN w 1)) 6))) (rsS S f g t w) := by
  obtain ⟨h1, h2, h3, h4, h5⟩ := h
  refine ⟨h1, h2, h3, h4, fun a ha => ?_⟩
  by_cases eg : a = g
  · rw [eg]
    have e1 : (fun b => (rsS S f g t w).2.2.2 g b) = rsR (fun b => S.2.2.2 g b) t (bitN w 1) := by
      funext b
      show (if b = t then (if g = f then bitN w 0 else if g = g then bitN w 1 else S.2.2.2 g t) else S.2.2.2 g b) = if b = t then bitN w 1 else S.2.2.2 g b
      have k : ¬ g = f := fun e => hfg e.symm
      rw [if_neg k, if_pos rfl]
    rw [e1]
    exact m_up_s
  · by_cases ef : a = f
    · rw [ef]
      have e1 : (fun b => (rsS S f g t w).2.2.2 f b) = rsR (fun b => S.2.2.2 f b) t (bitN w 0) := by
        funext b
        show (if b = t then (if f = f then bitN w 0 else if f = g then bitN w 1 else S.2.2.2 f t) else S.2.2.2 f b) = if b = t then bitN w 0 else S.2.2.2 f b
        rw [if_pos rfl]
      rw [e1]
      exact (m_up_n hfg).trans m_up_s
    · have e1 : (fun b => (rsS S f g t w).2.2.2 a b) = fun b => S.2.2.2 a b := by
        funext b
        show (if b = t then (if a = f then bitN w 0 else if a = g then bitN w 1 else S.2.2.2 a t) else S.2.2.2 a b) = S.2.2.2 a b
        rw [if_neg ef, if_neg eg]
        by_cases eb : b = t
        · rw [if_pos eb, eb]
        · rw [if_neg eb]
      rw [e1]
      exact (m_up_n eg).trans ((m_up_n ef).trans (h5 a ha))
theorem c_painM {L d a f g t w : Nat} {S : SH} {D : m_D} {Q : m_K} (hr : relM D S) (ho : okS S) (ha4 : a < 4) (hf4 : f < 4) (hg4 : g < 4) (hfg : f ≠ g) (ht6 : t < 6) (hw : w < 4) (h : ∀ D', m_fM z_MT [22] D D' → relM D' S → Q (some (.int (nI (p_pain S f g t w a)))) D') : m_call L (d + 5) 142 [.ref 34, .int (nI a), .int (nI f), .int (nI g), .int (nI t), .int (nI w)] D Q := by
  have hinf : vp_in (nI f) 4 := vp_in_nI (by omega) (by omega)
  have hclf : (nI f).toNatClampNeg = f := nI_clamp (by omega)
  have hing : vp_in (nI g) 4 := vp_in_nI (by omega) (by omega)
  have hclg : (nI g).toNatClampNeg = g := nI_clamp (by omega)
  have ef : D 40 f = nI (b_sum (fun b => S.2.2.2 f b) 6) := hr.2.2.2.2 f hf4
  have eg : D 40 g = nI (b_sum (fun b => S.2.2.2 g b) 6) := hr.2.2.2.2 g hg4
  refine v_in (tb' := t_X5_pain) (rk' := 1) rfl rfl rfl ?_
  refine v_go rfl ?_
  refine v_sd rfl hinf ?_
  rw [hclf, ef]
  refine v_go rfl ?_
  refine v_sd rfl hing ?_
  rw [hclg, eg]
  refine v_go rfl ?_
  refine v_sd rfl hinf ?_
  rw [hclf, rest6a _ ht6 hw]
  refine v_go rfl ?_
  refine v_sd rfl hing ?_
  rw [hclg, rest6b _ ht6 hw]
  have hr2 := relM_rs (t := t) (w := w) hr hfg
  refine v_go rfl ?_
  refine v_ca rfl ?_
  refine c_wetNow hr2 (okS_rs ho) ha4 (fun D3 hf3 hF => ?_)
  have hr3 := relM_keep hf3 (by decide) (by decide) hr2
  have hf0 : m_fM z_MT [22] D D := m_fM.refl _ _ _
  have hfa := ((hf0.up (i := 40) (j := f) (v := nI (b_sum (rsR (fun b => S.2.2.2 f b) t (bitN w 0)) 6)) (by simp) (by decide)).up (i := 40) (j := g) (v := nI (b_sum (rsR (fun b => S.2.2.2 g b) t (bitN w 1)) 6)) (by simp) (by decide)).trans (mtR hf3)
  have hr4 : relM (m_up (m_up D3 40 f (nI (b_sum (fun b => S.2.2.2 f b) 6))) 40 g (nI (b_sum (fun b => S.2.2.2 g b) 6))) S := by
    obtain ⟨k1, k2, k3, k4, k5⟩ := hr3
    refine ⟨k1, k2, k3, k4, fun q hq => ?_⟩
    by_cases e1 : q = g
    · rw [e1]
      exact m_up_s
    · by_cases e2 : q = f
      · rw [e2]
        exact (m_up_n hfg).trans m_up_s
      · refine (m_up_n e1).trans ((m_up_n e2).trans ?_)
        exact ((congrFun (hf3.1 40 (by simp) (by decide)) q).trans ((m_up_n e1).trans (m_up_n e2))).trans (hr.2.2.2.2 q hq)
  have h := h _ ((hfa.up (i := 40) (j := f) (v := nI (b_sum (fun b => S.2.2.2 f b) 6)) (by simp) (by decide)).up (i := 40) (j := g) (v := nI (b_sum (fun b => S.2.2.2 g b) 6)) (by simp) (by decide)) hr4
  unfold p_pain at h
  rw [← nI_add] at h
  refine v_go rfl ?_
  refine v_ca rfl ?_
  refine c_coughsM hr3 ha4 ht6 (fun z => ?_) (fun z => ?_)
  · rw [if_pos z] at h
    refine v_go rfl ?_
    refine v_bF rfl (by decide) ?_
    refine v_go rfl ?_
    refine v_sd rfl hinf ?_
    rw [hclf]
    refine v_go rfl ?_
    refine v_sd rfl hing ?_
    rw [hclg]
    exact v_go rfl (v_rt rfl trivial h)
  · rw [z, if_neg (by decide)] at h
    refine v_go rfl ?_
    refine v_bT rfl rfl ?_
    refine v_go rfl ?_
    refine v_sd rfl hinf ?_
    rw [hclf]
    refine v_go rfl ?_
    refine v_sd rfl hing ?_
    rw [hclg]
    exact v_go rfl (v_rt rfl trivial h)
theorem y_rests {L f g t : Nat} {S : SH} {D : m_D} {Q : m_K} (hr : relM D S) (ho : okS S) (hk : S.2.1 ≠ 0) (hf4 : f < 4) (hg4 : g < 4) (hfg : f ≠ g) (ht6 : t < 6) (h : ∀ D', m_fM z_MT [22] D D' → relM D' S → Q (some (.int (p_rs S f g t 4))) D') : m_call L 8 143 [.ref 34, .int (nI f), .int (nI g), .int (nI t)] D Q := by
  have hn6 := ho.1
  have hk3 := ho.2.1
  have r2 : D 34 2 = nI S.2.1 := hr.2.1
  have hinf : vp_in (nI f) 4 := vp_in_nI (by omega) (by omega)
  have hing : vp_in (nI g) 4 := vp_in_nI (by omega) (by omega)
  have key : ∀ (m w : Nat) (z6 z7 : Option Value) (D1 : m_D), w + m = 4 → m_fM z_MT [22] D D1 → relM D1 S → m_V L 7 Q t_X5_rests 1 (47, [some (.ref 34), some (.int (nI f)), some (.int (nI g)), some (.int (nI t)), some (.int (p_rs S f g t w)), some (.int (nI w)), z6, z7], [], D1) := by
    intro m
    induction m with
    | zero =>
      intro w z6 z7 D1 hm hf hr1
      have hm : w = 4 := by omega
      subst hm
      refine v_go rfl ?_
      refine v_bT rfl (Int32.le_refl _) ?_
      exact v_go rfl (v_rt rfl trivial (h D1 hf hr1))
    | succ m ih =>
      intro w z6 z7 D1 hm hf hr1
      have hw : w < 4 := by omega
      obtain ⟨x1, y1⟩ := w_x1 w hw
      obtain ⟨x2, y2⟩ := w_x2 w hw
      have q1 := pain_le ho f g t w f
      have q2 := pain_le ho f g t (w ^^^ 1) f
      have q3 := pain_le ho f g t w g
      have q4 := pain_le ho f g t (w ^^^ 2) g
      have e : p_rs S f g t (w + 1) = p_rs S f g t w ||| (if p_pain S f g t w f ≤ p_pain S f g t (w ^^^ 1) f ∧ p_pain S f g t w g ≤ p_pain S f g t (w ^^^ 2) g then (1 : Int32) <<< (nI w &&& 31) else (0 : Int32)) := rfl
      refine v_go rfl ?_
      refine v_bF rfl (nI_ge (b := 4) (by omega) (by omega)) ?_
      refine v_go rfl ?_
      refine v_ca rfl ?_
      refine c_painM hr1 ho hf4 hf4 hg4 hfg ht6 hw (fun D2 hf2 hr2 => ?_)
      have hfa := hf.trans hf2
      refine v_go rfl ?_
      refine v_ca rfl ?_
      rw [x1]
      refine c_painM hr2 ho hf4 hf4 hg4 hfg ht6 y1 (fun D3 hf3 hr3 => ?_)
      have hfb := hfa.trans hf3
      refine v_go rfl ?_
      have sec : ∀ s1 : Int32, (s1 = 1 ∧ p_pain S f g t w f ≤ p_pain S f g t (w ^^^ 1) f) ∨ (s1 = 0 ∧ ¬ p_pain S f g t w f ≤ p_pain S f g t (w ^^^ 1) f) → m_V L 7 Q t_X5_rests 1 (85, [some (.ref 34), some (.int (nI f)), some (.int (nI g)), some (.int (nI t)), some (.int (p_rs S f g t w)), some (.int (nI w)), some (.int s1), z7], [], D3) := by
        intro s1 hs1
        refine v_go rfl ?_
        refine v_ca rfl ?_
        refine c_painM hr3 ho hg4 hf4 hg4 hfg ht6 hw (fun D4 hf4' hr4 => ?_)
        have hfc := hfb.trans hf4'
        refine v_go rfl ?_
        refine v_ca rfl ?_
        rw [x2]
        refine c_painM hr4 ho hg4 hf4 hg4 hfg ht6 y2 (fun D5 hf5 hr5 => ?_)
        have hfd := hfc.trans hf5
        have ih := fun z7 => ih (w + 1) (some (.int s1)) z7 D5 (by omega) hfd hr5
        rw [← nI_1, e] at ih
        refine v_go rfl ?_
        by_cases g2 : p_pain S f g t w g ≤ p_pain S f g t (w ^^^ 2) g
        · refine v_bF rfl (nI_nlt (a := p_pain S f g t (w ^^^ 2) g) g2 (by omega)) ?_
          refine v_go rfl ?_
          rcases hs1 with ⟨rfl, g1⟩ | ⟨rfl, g1⟩
          · rw [if_pos ⟨g1, g2⟩] at ih
            refine v_bF rfl (by decide) ?_
            refine v_go rfl ?_
            refine v_bF rfl (by decide) ?_
            exact v_run 8 rfl (ih _)
          · rw [if_neg (fun z => g1 z.1)] at ih
            refine v_bT rfl rfl ?_
            exact v_run 5 rfl (ih _)
        · rw [if_neg (fun z => g2 z.2)] at ih
          refine v_bT rfl (nI_lt (b := p_pain S f g t w g) (by omega) (by omega)) ?_
          refine v_go rfl ?_
          rcases hs1 with ⟨rfl, g1⟩ | ⟨rfl, g1⟩
          · refine v_bF rfl (by decide) ?_
            refine v_go rfl ?_
            refine v_bT rfl rfl ?_
            exact v_run 5 rfl (ih _)
          · refine v_bT rfl rfl ?_
            exact v_run 5 rfl (ih _)
      by_cases g1 : p_pain S f g t w f ≤ p_pain S f g t (w ^^^ 1) f
      · refine v_bF rfl (nI_nlt (a := p_pain S f g t (w ^^^ 1) f) g1 (by omega)) ?_
        exact v_run 3 rfl (sec 1 (Or.inl ⟨rfl, g1⟩))
      · refine v_bT rfl (nI_lt (b := p_pain S f g t w f) (by omega) (by omega)) ?_
        exact v_run 2 rfl (sec 0 (Or.inr ⟨rfl, g1⟩))
  refine v_in (tb' := t_X5_rests) (rk' := 1) rfl rfl rfl ?_
  refine v_go rfl ?_
  refine v_ca rfl ?_
  refine c_noField (fun _ => ?_) (fun z => absurd hinf z)
  refine v_go rfl ?_
  refine v_bF rfl (by decide) ?_
  refine v_go rfl ?_
  refine v_ca rfl ?_
  refine c_noField (fun _ => ?_) (fun z => absurd hing z)
  refine v_go rfl ?_
  refine v_bF rfl (by decide) ?_
  refine v_go rfl ?_
  refine v_bT rfl (fun z => hfg ((nI_eq (by omega) (by omega)).mp z)) ?_
  refine v_go rfl ?_
  refine v_ca rfl ?_
  refine c_isHourM (fun _ => ?_) (fun z => absurd (vp_in_nI (by omega) (by omega)) z)
  refine v_go rfl ?_
  refine v_bT rfl (by decide) ?_
  refine v_go rfl ?_
  rw [r2]
  refine v_bT rfl (nI_ne0 (by omega) (by omega)) ?_
  exact v_run 4 rfl (key 4 0 none none D (by omega) (m_fM.refl _ _ _) hr)
theorem s_rests (x y w : Int32) : StepI 52 143 [.int x, .int y, .int w] := by
  intro L Z hz
  obtain ⟨S, rd, sh, tr, fl⟩ := Z
  have hoS : okS S := hz.1
  have hn6 : S.1 ≤ 6 := hoS.1
  have hnk : S.1 = 0 ↔ S.2.1 = 0 := hz.2.1
  have hk3 : S.2.1 ≤ 3 := hoS.2.1
  by_cases hxy : vp_in x 4 ∧ vp_in y 4 ∧ ¬ x = y
  · obtain ⟨hx, hy, hxy⟩ := hxy
    have xpre : ∀ (D : m_D) (Q : m_K), m_V L 7 Q t_X4_rests 1 (21, [some (.ref 0), some (.int x), some (.int y), some (.int w), none, none, none, none, none], [], D) → m_call L 8 52 [.ref 0, .int x, .int y, .int w] D Q := by
      intro D Q hk
      refine v_in (tb' := t_X4_rests) (rk' := 1) rfl rfl rfl ?_
      refine v_go rfl ?_
      refine v_ca rfl ?_
      refine c_isField (fun _ => ?_) (fun z => absurd hx z)
      refine v_go rfl ?_
      refine v_bF rfl (by decide) ?_
      refine v_go rfl ?_
      refine v_ca rfl ?_
      refine c_isField (fun _ => ?_) (fun z => absurd hy z)
      refine v_go rfl ?_
      refine v_bF rfl (by decide) ?_
      refine v_go rfl ?_
      exact v_bT rfl hxy hk
    have ypre : ∀ (D : m_D) (Q : m_K), m_V L 7 Q t_X5_rests 1 (21, [some (.ref 34), some (.int x), some (.int y), some (.int w), none, none, none, none], [], D) → m_call L 8 143 [.ref 34, .int x, .int y, .int w] D Q := by
      intro D Q hk
      refine v_in (tb' := t_X5_rests) (rk' := 1) rfl rfl rfl ?_
      refine v_go rfl ?_
      refine v_ca rfl ?_
      refine c_noField (fun _ => ?_) (fun z => absurd hx z)
      refine v_go rfl ?_
      refine v_bF rfl (by decide) ?_
      refine v_go rfl ?_
      refine v_ca rfl ?_
      refine c_noField (fun _ => ?_) (fun z => absurd hy z)
      refine v_go rfl ?_
      refine v_bF rfl (by decide) ?_
      refine v_go rfl ?_
      exact v_bT rfl hxy hk
    by_cases hw : vp_in w 6
    · by_cases hn : S.1 = 0
      · have hk : S.2.1 = 0 := hnk.mp hn
        refine ⟨-3, (S, rd, sh, tr, fl), hz, fun D Q hI h => ?_, fun D Q hI h => ?_⟩
        · refine xpre D Q ?_
          refine v_go rfl ?_
          refine v_ca rfl ?_
          refine c_isHour (fun _ => ?_) (fun z => absurd hw z)
          refine v_ca rfl ?_
          refine c_refusalOf hI.1.1 hn6 (fun z => absurd hx z) (fun _ z => absurd z (by decide)) (fun _ _ _ => ?_) (fun _ _ z => absurd hn z)
          refine v_go rfl ?_
          refine v_bF rfl (by decide) ?_
          exact v_go rfl (v_rt rfl trivial (h _ (frC.refl _) hI))
        · have r2 : D 34 2 = nI 0 := by rw [← hk]; exact hI.1.2.1
          refine ypre D Q ?_
          refine v_go rfl ?_
          refine v_ca rfl ?_
          refine c_isHourM (fun _ => ?_) (fun z => absurd hw z)
          refine v_go rfl ?_
          refine v_bT rfl (by decide) ?_
          refine v_go rfl ?_
          rw [r2]
          refine v_bF rfl (fun z => z rfl) ?_
          exact v_go rfl (v_rt rfl trivial (h _ (frM.refl _) hI))
      · have hk : S.2.1 ≠ 0 := fun z => hn (hnk.mpr z)
        obtain ⟨f, hf, rfl⟩ := vp_in_of hx (by omega)
        obtain ⟨g, hg, rfl⟩ := vp_in_of hy (by omega)
        obtain ⟨t, ht, rfl⟩ := vp_in_of hw (by omega)
        have hfg : f ≠ g := fun z => hxy (by rw [z])
        refine ⟨p_rs S f g t 4, (S, rd, sh, tr, fl), hz, fun D Q hI h => ?_, fun D Q hI h => ?_⟩
        · exact x_rests hI.1 hoS hn hf hg hfg ht (fun D' hf => h D' (frC_FT hf) (InvC_FT hI hf))
        · exact y_rests hI.1 hoS hk hf hg hfg ht (fun D' hf hr => h D' (frM_MT hf) (InvM_MT hI hr hf))
    · refine ⟨-2, (S, rd, sh, tr, fl), hz, fun D Q hI h => ?_, fun D Q hI h => ?_⟩
      · refine xpre D Q ?_
        refine v_go rfl ?_
        refine v_ca rfl ?_
        refine c_isHour (fun z => absurd z hw) (fun _ => ?_)
        refine v_ca rfl ?_
        refine c_refusalOf hI.1.1 hn6 (fun z => absurd hx z) (fun _ _ => ?_) (fun _ z _ => absurd rfl z) (fun _ z _ => absurd rfl z)
        refine v_go rfl ?_
        refine v_bF rfl (by decide) ?_
        exact v_go rfl (v_rt rfl trivial (h _ (frC.refl _) hI))
      · refine ypre D Q ?_
        refine v_go rfl ?_
        refine v_ca rfl ?_
        refine c_isHourM (fun z => absurd z hw) (fun _ => ?_)
        refine v_go rfl ?_
        refine v_bF rfl (by decide) ?_
        exact v_go rfl (v_rt rfl trivial (h _ (frM.refl _) hI))
  · refine ⟨-1, (S, rd, sh, tr, fl), hz, fun D Q hI h => ?_, fun D Q hI h => ?_⟩
    · have h := h _ (frC.refl _) hI
      refine v_in (tb' := t_X4_rests) (rk' := 1) rfl rfl rfl ?_
      refine v_go rfl ?_
      refine v_ca rfl ?_
      refine c_isField (fun z1 => ?_) (fun _ => ?_)
      · refine v_go rfl ?_
        refine v_bF rfl (by decide) ?_
        refine v_go rfl ?_
        refine v_ca rfl ?_
        refine c_isField (fun z2 => ?_) (fun _ => ?_)
        · refine v_go rfl ?_
          refine v_bF rfl (by decide) ?_
          refine v_go rfl ?_
          refine v_bF rfl (fun z3 => hxy ⟨z1, z2, z3⟩) ?_
          exact v_go rfl (v_rt rfl trivial h)
        · refine v_go rfl ?_
          refine v_bT rfl rfl ?_
          exact v_go rfl (v_rt rfl trivial h)
      · refine v_go rfl ?_
        refine v_bT rfl rfl ?_
        exact v_go rfl (v_rt rfl trivial h)
    · have h := h _ (frM.refl _) hI
      refine v_in (tb' := t_X5_rests) (rk' := 1) rfl rfl rfl ?_
      refine v_go rfl ?_
      refine v_ca rfl ?_
      refine c_noField (fun z1 => ?_) (fun _ => ?_)
      · refine v_go rfl ?_
        refine v_bF rfl (by decide) ?_
        refine v_go rfl ?_
        refine v_ca rfl ?_
        refine c_noField (fun z2 => ?_) (fun _ => ?_)
        · refine v_go rfl ?_
          refine v_bF rfl (by decide) ?_
          refine v_go rfl ?_
          refine v_bF rfl (fun z3 => hxy ⟨z1, z2, z3⟩) ?_
          exact v_go rfl (v_rt rfl trivial h)
        · refine v_go rfl ?_
          refine v_bT rfl (by decide) ?_
          exact v_go rfl (v_rt rfl trivial h)
      · refine v_go rfl ?_
        refine v_bT rfl (by decide) ?_
        exact v_go rfl (v_rt rfl trivial h)
end
section
/-! ===== the acts of a day ===== -/
def p_act (a b : Int32) : Prop := vp_in b 13 ∧ (b < 6 → vp_in a 10) ∧ (¬ b < 6 → vp_in a 6)
theorem c_isAct {L d : Nat} {a b : Int32} {D : m_D} {Q : m_K} (h1 : p_act a b → Q (some (.int 1)) D) (h0 : ¬ p_act a b → Q (some (.int 0)) D) : m_call L (d + 2) 40 [.ref 0, .int a, .int b] D Q := by
  have v13 : vp_in b 13 ↔ ¬ b < 0 ∧ ¬ (13 : Int32) ≤ b := vi_iff (n := 13) (by omega)
  have l13 : ¬ (13 : Int32) ≤ b ↔ b < 13 := by
    rw [Int32.le_iff_toInt_le, Int32.lt_iff_toInt_lt]
    omega
  have l6 : (6 : Int32) ≤ b ↔ ¬ b < 6 := by
    rw [Int32.le_iff_toInt_le, Int32.lt_iff_toInt_lt]
    omega
  rw [l13] at v13
  refine v_in (tb' := t_X4_isAct) (rk' := 2) rfl rfl rfl ?_
  refine v_go rfl ?_
  refine v_br rfl (fun z => ?_) (fun z => ?_)
  · exact v_go rfl (v_rt rfl (Or.inl rfl) (h0 (fun y => (v13.mp y.1).1 z)))
  · refine v_go rfl ?_
    refine v_br rfl (fun z2 => ?_) (fun z2 => ?_)
    · have hv := v13.mpr ⟨z, z2⟩
      refine v_go rfl ?_
      refine v_br rfl (fun z3 => ?_) (fun z3 => ?_)
      · have z3 := l6.mp z3
        refine v_go rfl ?_
        refine v_br rfl (fun z4 => ?_) (fun z4 => ?_)
        · refine v_go rfl ?_
          refine v_ca rfl ?_
          refine c_isHour (fun y => ?_) (fun y => ?_)
          · exact v_go rfl (v_rt rfl (Or.inr rfl) (h1 ⟨hv, fun q => absurd q z3, fun _ => y⟩))
          · exact v_go rfl (v_rt rfl (Or.inl rfl) (h0 (fun q => y (q.2.2 z3))))
        · refine v_go rfl ?_
          refine v_ca rfl ?_
          refine c_isWithin (n := 5) (by omega) (fun y => ?_) (fun y => ?_)
          · exact v_go rfl (v_rt rfl (Or.inr rfl) (h1 ⟨hv, fun q => absurd q z3, fun _ => y⟩))
          · exact v_go rfl (v_rt rfl (Or.inl rfl) (h0 (fun q => y (q.2.2 z3))))
      · have z3 : b < 6 := Decidable.not_not.mp (fun q => z3 (l6.mpr q))
        refine v_go rfl ?_
        refine v_ca rfl ?_
        refine c_isWithin (n := 9) (by omega) (fun y => ?_) (fun y => ?_)
        · exact v_rt rfl (Or.inr rfl) (h1 ⟨hv, fun _ => y, fun q => absurd z3 q⟩)
        · exact v_rt rfl (Or.inl rfl) (h0 (fun q => y (q.2.1 z3)))
    · exact v_go rfl (v_rt rfl (Or.inl rfl) (h0 (fun y => z2 (v13.mp y.1).2)))
theorem c_isAsTold {L d : Nat} {a b : Int32} {D : m_D} {Q : m_K} (h1 : p_act a b → Q (some (.int 1)) D) (h0 : ¬ p_act a b → Q (some (.int 0)) D) : m_call L (d + 2) 126 [.int a, .int b] D Q := by
  have l6 : (6 : Int32) ≤ b ↔ ¬ b < 6 := by
    rw [Int32.le_iff_toInt_le, Int32.lt_iff_toInt_lt]
    omega
  refine v_in (tb' := t_X5_isAsTold) (rk' := 2) rfl rfl rfl ?_
  refine v_go rfl ?_
  refine v_ca rfl ?_
  refine c_in (fun p1 p2 => ?_) (fun z => ?_)
  · have hv := (in_iff (n := 13) (by decide)).mp ⟨p1, p2⟩
    refine v_go rfl ?_
    refine v_bF rfl (by decide) ?_
    refine v_go rfl ?_
    refine v_br rfl (fun z3 => ?_) (fun z3 => ?_)
    · have z3 := l6.mp z3
      refine v_go rfl ?_
      refine v_ca rfl ?_
      refine c_in (fun p1 p2 => ?_) (fun z => ?_)
      · have hy := (in_iff (n := 6) (by decide)).mp ⟨p1, p2⟩
        refine v_go rfl ?_
        refine v_bF rfl (by decide) ?_
        exact v_go rfl (v_rt rfl (Or.inr rfl) (h1 ⟨hv, fun q => absurd q z3, fun _ => hy⟩))
      · refine v_go rfl ?_
        refine v_bT rfl rfl ?_
        exact v_go rfl (v_rt rfl (Or.inl rfl) (h0 (fun q => z ((in_iff (n := 6) (by decide)).mpr (q.2.2 z3)))))
    · have z3 : b < 6 := Decidable.not_not.mp (fun q => z3 (l6.mpr q))
      refine v_go rfl ?_
      refine v_ca rfl ?_
      refine c_in (fun p1 p2 => ?_) (fun z => ?_)
      · have hy := (in_iff (n := 10) (by decide)).mp ⟨p1, p2⟩
        refine v_go rfl ?_
        refine v_bF rfl (by decide) ?_
        exact v_go rfl (v_rt rfl (Or.inr rfl) (h1 ⟨hv, fun _ => hy, fun q => absurd z3 q⟩))
      · refine v_go rfl ?_
        refine v_bT rfl rfl ?_
        exact v_go rfl (v_rt rfl (Or.inl rfl) (h0 (fun q => z ((in_iff (n := 10) (by decide)).mpr (q.2.1 z3)))))
  · refine v_go rfl ?_
    refine v_bT rfl rfl ?_
    exact v_go rfl (v_rt rfl (Or.inl rfl) (h0 (fun q => z ((in_iff (n := 13) (by decide)).mpr q.1))))
def p_do (S : SH) (x y : Nat) : Option SH := if y < 6 then (if y < S.1 then some (setT S 0 y x) else none) else if y < 9 then (if y - 6 < S.2.1 ∧ x < S.1 then some (setT S 4 (y - 6) x) else none) else some (flipC S (y - 9) x)
def okA (x y : Nat) : Prop := y < 13 ∧ (y < 6 → x ≤ 9) ∧ (¬ y < 6 → x < 6)
theorem p_do_a {S : SH} {x y : Nat} (h : y < 6) (h2 : y < S.1) : p_do S x y = some (setT S 0 y x) := by
  unfold p_do
  rw [if_pos h, if_pos h2]
theorem p_do_a0 {S : SH} {x y : Nat} (h : y < 6) (h2 : ¬ y < S.1) : p_do S x y = none := by
  unfold p_do
  rw [if_pos h, if_neg h2]
theorem p_do_b {S : SH} {x y : Nat} (h : ¬ y < 6) (h9 : y < 9) (h2 : y - 6 < S.2.1 ∧ x < S.1) : p_do S x y = some (setT S 4 (y - 6) x) := by
  unfold p_do
  rw [if_neg h, if_pos h9, if_pos h2]
theorem p_do_b0 {S : SH} {x y : Nat} (h : ¬ y < 6) (h9 : y < 9) (h2 : ¬ (y - 6 < S.2.1 ∧ x < S.1)) : p_do S x y = none := by
  unfold p_do
  rw [if_neg h, if_pos h9, if_neg h2]
theorem p_do_c {S : SH} {x y : Nat} (h : ¬ y < 6) (h9 : ¬ y < 9) : p_do S x y = some (flipC S (y - 9) x) := by
  unfold p_do
  rw [if_neg h, if_neg h9]
def sameS (S1 S : SH) : Prop := S1.1 = S.1 ∧ S1.2.1 = S.2.1 ∧ ∀ i c, i = 1 ∨ i = 2 ∨ i = 3 → S1.2.2.1 i c = S.2.2.1 i c
theorem p_do_ok {S S2 : SH} {x y : Nat} (ho : okS S) (ha : okA x y) (h : p_do S x y = some S2) : okS S2 ∧ sameS S2 S := by
  obtain ⟨h13, hx9, hx6⟩ := ha
  by_cases h6 : y < 6
  · by_cases h2 : y < S.1
    · rw [p_do_a h6 h2] at h
      cases h
      exact ⟨okS_setT ho ⟨fun _ => hx9 h6, fun z => (by omega), fun z => (by omega), fun z => (by omega), fun z => (by omega)⟩, rfl, rfl, fun i c hi => setT_n (fun z => by omega)⟩
    · rw [p_do_a0 h6 h2] at h
      cases h
  · by_cases h9 : y < 9
    · by_cases h2 : y - 6 < S.2.1 ∧ x < S.1
      · rw [p_do_b h6 h9 h2] at h
        cases h
        exact ⟨okS_setT ho ⟨fun z => (by omega), fun z => (by omega), fun z => (by omega), fun z => (by omega), fun z => h2.2⟩, rfl, rfl, fun i c hi => setT_n (fun z => by omega)⟩
      · rw [p_do_b0 h6 h9 h2] at h
        cases h
    · rw [p_do_c h6 h9] at h
      cases h
      exact ⟨ho, rfl, rfl, fun _ _ _ => rfl⟩
theorem c_does {L d x y : Nat} {S : SH} {D : m_D} {Q : m_K} (hr : relC 8 D S) (ho : okS S) (ha : okA x y) (h1 : ∀ D' S2, p_do S x y = some S2 → m_fr z_T D D' → relC 8 D' S2 → Q (some (.int 1)) D') (h0 : p_do S x y = none → Q (some (.int 0)) D) : m_call L (d + 2) 21 [.ref 8, .int (nI x), .int (nI y)] D Q := by
  obtain ⟨h13, hx9, hx6⟩ := ha
  have hn6 := ho.1
  have hk3 := ho.2.1
  have r0 : D 8 0 = nI S.1 := hr.1
  have r1 : D 8 1 = nI S.2.1 := hr.2.1
  have hf0 : m_fr z_T D D := m_fr.refl _ _
  refine v_in (tb' := t_X2_does) (rk' := 2) rfl rfl rfl ?_
  refine v_go rfl ?_
  by_cases h6 : y < 6
  · have hin : vp_in (nI y) 6 := vp_in_nI (by omega) (by omega)
    have hcl : (nI y).toNatClampNeg = y := nI_clamp (by omega)
    refine v_bF rfl (nI_ge (b := 6) h6 (by omega)) ?_
    refine v_go rfl ?_
    rw [r0]
    by_cases h2 : y < S.1
    · refine v_bT rfl (nI_lt h2 (by omega)) ?_
      refine v_go rfl ?_
      refine v_sd rfl hin ?_
      rw [hcl]
      exact v_go rfl (v_rt rfl (Or.inr rfl) (h1 _ _ (p_do_a h6 h2) (hf0.up (by simp)) (relC_setT (B := 8) (i := 0) (by omega) hr)))
    · refine v_bF rfl (nI_nlt (by omega) (by omega)) ?_
      exact v_go rfl (v_rt rfl (Or.inl rfl) (h0 (p_do_a0 h6 h2)))
  · refine v_bT rfl (nI_le (a := 6) (by omega) (by omega)) ?_
    refine v_go rfl ?_
    by_cases h9 : y < 9
    · have e6 : nI y - 6 = nI (y - 6) := pk_sub (b := 6) (by omega)
      refine v_bF rfl (nI_ge (b := 9) h9 (by omega)) ?_
      refine v_go rfl ?_
      rw [r1, e6]
      by_cases ha1 : y - 6 < S.2.1
      · refine v_bF rfl (nI_ge ha1 (by omega)) ?_
        refine v_go rfl ?_
        rw [r0]
        by_cases ha2 : x < S.1
        · have hin : vp_in (nI (y - 6)) 3 := vp_in_nI (by omega) (by omega)
          have hcl : (nI (y - 6)).toNatClampNeg = y - 6 := nI_clamp (by omega)
          refine v_bT rfl (nI_lt ha2 (by omega)) ?_
          refine v_go rfl ?_
          rw [e6]
          refine v_sd rfl hin ?_
          rw [hcl]
          exact v_go rfl (v_rt rfl (Or.inr rfl) (h1 _ _ (p_do_b h6 h9 ⟨ha1, ha2⟩) (hf0.up (by simp)) (relC_setT (B := 8) (i := 4) (by omega) hr)))
        · refine v_bF rfl (nI_nlt (by omega) (by omega)) ?_
          exact v_go rfl (v_rt rfl (Or.inl rfl) (h0 (p_do_b0 h6 h9 (fun z => ha2 z.2))))
      · refine v_bT rfl (nI_le (by omega) (by omega)) ?_
        exact v_go rfl (v_rt rfl (Or.inl rfl) (h0 (p_do_b0 h6 h9 (fun z => ha1 z.1))))
    · have e9 : nI y - 9 = nI (y - 9) := pk_sub (b := 9) (by omega)
      refine v_bT rfl (nI_le (a := 9) (by omega) (by omega)) ?_
      refine v_go rfl ?_
      refine v_ca rfl ?_
      rw [e9]
      have h6x := hx6 h6
      refine c_turn (Or.inr rfl) h6x ?_
      exact v_go rfl (v_rt rfl (Or.inr rfl) (h1 _ _ (p_do_c h6 h9) (hf0.up (by simp)) (relC_flip (B := 8) (by omega) h6x hr)))
theorem c_prM {L d x y : Nat} {S : SH} {D : m_D} {Q : m_K} (hr : relM D S) (ho : okS S) (hy : y < 100) (hx : x ≤ 9) (h1 : y < S.1 → Q (some (.int (nI (S.2.2.1 0 y)))) (m_up D 35 y (nI x))) (h0 : ¬ y < S.1 → Q (some (.int (-1))) D) : m_call L (d + 3) 119 [.ref 34, .int (nI y), .int (nI x)] D Q := by
  have hn6 := ho.1
  refine v_in (tb' := t_X5_print) (rk' := 1) rfl rfl rfl ?_
  refine v_go rfl ?_
  refine v_ca rfl ?_
  refine c_noLine hr.1 hn6 (fun z => ?_) (fun z => ?_)
  · have hy2 : y < S.1 := by
      obtain ⟨q, hq, e⟩ := vp_in_of z (by omega)
      have := (nI_eq (by omega) (by omega)).mp e
      omega
    have hin : vp_in (nI y) 6 := vp_in_nI (by omega) (by omega)
    have hcl : (nI y).toNatClampNeg = y := nI_clamp (by omega)
    have e35 : D 35 y = nI (S.2.2.1 0 y) := (hr.2.2.1 y hy2).1
    refine v_go rfl ?_
    refine v_bT rfl rfl ?_
    refine v_go rfl ?_
    refine v_ca rfl ?_
    refine c_in (fun _ _ => ?_) (fun z => absurd ((in_iff (n := 10) (by decide)).mpr (vp_in_nI (by omega) (by omega))) z)
    refine v_go rfl ?_
    refine v_bT rfl (by decide) ?_
    refine v_go rfl ?_
    refine v_sd rfl hin ?_
    rw [hcl, e35]
    refine v_go rfl ?_
    refine v_sd rfl hin ?_
    rw [hcl]
    exact v_go rfl (v_rt rfl trivial (h1 hy2))
  · refine v_go rfl ?_
    refine v_bF rfl (by decide) ?_
    exact v_go rfl (v_rt rfl trivial (h0 (fun y2 => z (vp_in_nI y2 (by omega)))))
theorem c_bgM {L d x y : Nat} {S : SH} {D : m_D} {Q : m_K} (hr : relM D S) (ho : okS S) (hy : y < 100) (hx : x < 100) (h1 : y < S.2.1 → x < S.1 → Q (some (.int (nI (S.2.2.1 4 y)))) (m_up D 39 y (nI x))) (h0 : ¬ (y < S.2.1 ∧ x < S.1) → Q (some (.int (-1))) D) : m_call L (d + 3) 120 [.ref 34, .int (nI y), .int (nI x)] D Q := by
  have hn6 := ho.1
  have hk3 := ho.2.1
  refine v_in (tb' := t_X5_begin) (rk' := 1) rfl rfl rfl ?_
  refine v_go rfl ?_
  refine v_ca rfl ?_
  refine c_noCrier hr.2.1 (by omega) (fun z => ?_) (fun z => ?_)
  · have hy2 : y < S.2.1 := by
      obtain ⟨q, hq, e⟩ := vp_in_of z (by omega)
      have := (nI_eq (by omega) (by omega)).mp e
      omega
    refine v_go rfl ?_
    refine v_bF rfl (by decide) ?_
    refine v_go rfl ?_
    refine v_ca rfl ?_
    refine c_noLine hr.1 hn6 (fun z2 => ?_) (fun z2 => ?_)
    · have hx2 : x < S.1 := by
        obtain ⟨q, hq, e⟩ := vp_in_of z2 (by omega)
        have := (nI_eq (by omega) (by omega)).mp e
        omega
      have hin : vp_in (nI y) 3 := vp_in_nI (by omega) (by omega)
      have hcl : (nI y).toNatClampNeg = y := nI_clamp (by omega)
      have e39 : D 39 y = nI (S.2.2.1 4 y) := (hr.2.2.2.1 y hy2).2.2
      refine v_go rfl ?_
      refine v_bT rfl rfl ?_
      refine v_go rfl ?_
      refine v_sd rfl hin ?_
      rw [hcl, e39]
      refine v_go rfl ?_
      refine v_sd rfl hin ?_
      rw [hcl]
      exact v_go rfl (v_rt rfl trivial (h1 hy2 hx2))
    · refine v_go rfl ?_
      refine v_bF rfl (by decide) ?_
      exact v_go rfl (v_rt rfl trivial (h0 (fun y2 => z2 (vp_in_nI y2.2 (by omega)))))
  · refine v_go rfl ?_
    refine v_bT rfl (by decide) ?_
    exact v_go rfl (v_rt rfl trivial (h0 (fun y2 => z (vp_in_nI y2.1 (by omega)))))
theorem c_doesPair {L d x y : Nat} {S : SH} {D : m_D} {Q : m_K} (hr : relM D S) (ho : okS S) (ha : okA x y) (h1 : ∀ D' S2, p_do S x y = some S2 → m_fM [35, 39, 40] [] D D' → relM D' S2 → Q (some (.int 1)) D') (h0 : p_do S x y = none → Q (some (.int 0)) D) : m_call L (d + 4) 127 [.ref 34, .int (nI x), .int (nI y)] D Q := by
  obtain ⟨h13, hx9, hx6⟩ := ha
  have hn6 := ho.1
  have hk3 := ho.2.1
  have hf0 : m_fM [35, 39, 40] [] D D := m_fM.refl _ _ _
  refine v_in (tb' := t_X5_doesPair) (rk' := 2) rfl rfl rfl ?_
  refine v_go rfl ?_
  by_cases h6 : y < 6
  · refine v_bF rfl (nI_ge (b := 6) h6 (by omega)) ?_
    refine v_go rfl ?_
    refine v_ca rfl ?_
    refine c_prM hr ho (by omega) (hx9 h6) (fun z => ?_) (fun z => ?_)
    · have hd9 := (ho.2.2.1 y z).1
      refine v_go rfl ?_
      refine v_bF rfl (nI_pos (by omega)) ?_
      exact v_go rfl (v_rt rfl (Or.inr rfl) (h1 _ _ (p_do_a h6 z) (hf0.up (by simp) (by decide)) (relM_setT (i := 0) (by omega) hr)))
    · refine v_go rfl ?_
      refine v_bT rfl (by decide) ?_
      exact v_go rfl (v_rt rfl (Or.inl rfl) (h0 (p_do_a0 h6 z)))
  · refine v_bT rfl (nI_le (a := 6) (by omega) (by omega)) ?_
    refine v_go rfl ?_
    have h6x := hx6 h6
    by_cases h9 : y < 9
    · have e6 : nI y - 6 = nI (y - 6) := pk_sub (b := 6) (by omega)
      refine v_bF rfl (nI_ge (b := 9) h9 (by omega)) ?_
      refine v_go rfl ?_
      refine v_ca rfl ?_
      rw [e6]
      refine c_bgM hr ho (by omega) (by omega) (fun z z2 => ?_) (fun z => ?_)
      · have hs4 := (ho.2.2.2 _ z).2.2.2
        refine v_go rfl ?_
        refine v_bF rfl (nI_pos (by omega)) ?_
        exact v_go rfl (v_rt rfl (Or.inr rfl) (h1 _ _ (p_do_b h6 h9 ⟨z, z2⟩) (hf0.up (by simp) (by decide)) (relM_setT (i := 4) (by omega) hr)))
      · refine v_go rfl ?_
        refine v_bT rfl (by decide) ?_
        exact v_go rfl (v_rt rfl (Or.inl rfl) (h0 (p_do_b0 h6 h9 z)))
    · have e9 : nI y - 9 = nI (y - 9) := pk_sub (b := 9) (by omega)
      refine v_bT rfl (nI_le (a := 9) (by omega) (by omega)) ?_
      refine v_go rfl ?_
      refine v_ca rfl ?_
      rw [e9]
      refine c_coughed hr (by omega) h6x ?_
      have hn : ¬ (if (flipC S (y - 9) x).2.2.2 (y - 9) x = true then (1 : Int32) else 0) < 0 := by
        split
        · decide
        · decide
      refine v_go rfl ?_
      refine v_bF rfl hn ?_
      exact v_go rfl (v_rt rfl (Or.inr rfl) (h1 _ _ (p_do_c h6 h9) (hf0.up (by simp) (by decide)) (relM_flip (by omega) h6x hr)))
def p_dy (S : SH) (c : Nat → Nat × Nat) : Nat → SH × Option Nat
  | 0 => (S, none)
  | m + 1 => match p_dy S c m with
    | (S1, some w) => (S1, some w)
    | (S1, none) => match p_do S1 (c m).1 (c m).2 with
      | none => (S1, some m)
      | some S2 => (S2, none)
theorem p_dy_n {S S1 : SH} {c : Nat → Nat × Nat} {m : Nat} (h : p_dy S c m = (S1, none)) (h2 : p_do S1 (c m).1 (c m).2 = none) : p_dy S c (m + 1) = (S1, some m) := by
  show (match p_dy S c m with
    | (S1, some w) => (S1, some w)
    | (S1, none) => match p_do S1 (c m).1 (c m).2 with
      | none => (S1, some m)
      | some S2 => (S2, none)) = _
  rw [h]
  dsimp only
  rw [h2]
theorem p_dy_s {S S1 S2 : SH} {c : Nat → Nat × Nat} {m : Nat} (h : p_dy S c m = (S1, none)) (h2 : p_do S1 (c m).1 (c m).2 = some S2) : p_dy S c (m + 1) = (S2, none) := by
  show (match p_dy S c m with
    | (S1, some w) => (S1, some w)
    | (S1, none) => match p_do S1 (c m).1 (c m).2 with
      | none => (S1, some m)
      | some S2 => (S2, none)) = _
  rw [h]
  dsimp only
  rw [h2]
theorem p_dy_w {S S1 : SH} {c : Nat → Nat × Nat} {m w : Nat} (h : p_dy S c m = (S1, some w)) : ∀ q, p_dy S c (m + q) = (S1, some w)
  | 0 => h
  | q + 1 => by
    show (match p_dy S c (m + q) with
      | (S1, some w) => (S1, some w)
      | (S1, none) => match p_do S1 (c (m + q)).1 (c (m + q)).2 with
        | none => (S1, some (m + q))
        | some S2 => (S2, none)) = _
    rw [p_dy_w h q]
def cA (f : Nat → Int32) (a p : Nat) : Nat × Nat := ((f (a + 2 * p)).toNatClampNeg, (f (a + 2 * p + 1)).toNatClampNeg)
def allA (f : Nat → Int32) (a m : Nat) : Prop := ∀ p, p < m → p_act (f (a + 2 * p)) (f (a + 2 * p + 1))
theorem act_ok {a b : Int32} (h : p_act a b) : a = nI a.toNatClampNeg ∧ b = nI b.toNatClampNeg ∧ okA a.toNatClampNeg b.toNatClampNeg := by
  obtain ⟨h13, h9, h6⟩ := h
  obtain ⟨y, hy, rfl⟩ := vp_in_of h13 (by omega)
  have ey : (nI y).toNatClampNeg = y := nI_clamp (by omega)
  rw [ey]
  by_cases hb : y < 6
  · obtain ⟨x, hx, rfl⟩ := vp_in_of (h9 (nI_lt (b := 6) hb (by omega))) (by omega)
    have ex : (nI x).toNatClampNeg = x := nI_clamp (by omega)
    rw [ex]
    exact ⟨rfl, rfl, hy, fun _ => (by omega), fun z => absurd hb z⟩
  · obtain ⟨x, hx, rfl⟩ := vp_in_of (h6 (nI_nlt (b := 6) (by omega) (by omega))) (by omega)
    have ex : (nI x).toNatClampNeg = x := nI_clamp (by omega)
    rw [ex]
    exact ⟨rfl, rfl, hy, fun z => absurd z hb, fun _ => hx⟩
theorem sameS.trans {A B C : SH} (h : sameS A B) (g : sameS B C) : sameS A C := ⟨h.1.trans g.1, h.2.1.trans g.2.1, fun i c hi => (h.2.2 i c hi).trans (g.2.2 i c hi)⟩
theorem ix2 (a p : Nat) : nI a + 2 * nI p = nI (a + 2 * p) := by rw [show (2 : Int32) = nI 2 from rfl, pk_mul, nI_add]
theorem ix3 (a p : Nat) : nI a + 2 * nI p + 1 = nI (a + 2 * p + 1) := by rw [ix2, nI_1]
theorem c_areActs {L d k a m n : Nat} {f : Nat → Int32} {D : m_D} {Q : m_K} (hk : k < 4) (hn : n ≤ 60) (ham : a + 2 * m ≤ n) (hs : ∀ i, i < n → D (25 + 2 * k) i = f i) (h1 : allA f a m → Q (some (.int 1)) D) (h0 : ¬ allA f a m → Q (some (.int 0)) D) : m_call L (d + 3) 39 [.ref 0, .ref (24 + 2 * k), .int (nI a), .int (nI m)] D Q := by
  have hk4 : k = 0 ∨ k = 1 ∨ k = 2 ∨ k = 3 := by omega
  rcases hk4 with rfl | rfl | rfl | rfl
  · refine v_in (tb' := t_X4_areActs) (rk' := 2) rfl rfl rfl ?_
    refine v_run 2 rfl ?_
    have key : ∀ (q p : Nat), p + q = m → allA f a p → m_V L (d + 2) Q t_X4_areActs 2 (3, [some (.ref 0), some (.ref (24 + 2 * 0)), some (.int (nI a)), some (.int (nI m)), some (.int (nI p))], [], D) := by
      intro q
      induction q with
      | zero =>
        intro p hq hp
        have hq : p = m := by omega
        subst hq
        refine v_go rfl ?_
        refine v_bT rfl (Int32.le_refl _) ?_
        exact v_go rfl (v_rt rfl (Or.inr rfl) (h1 hp))
      | succ q ih =>
        intro p hq hp
        have i1 : vp_in (nI (a + 2 * p)) 60 := vp_in_nI (by omega) (by omega)
        have c1 : (nI (a + 2 * p)).toNatClampNeg = a + 2 * p := nI_clamp (by omega)
        have i2 : vp_in (nI (a + 2 * p + 1)) 60 := vp_in_nI (by omega) (by omega)
        have c2 : (nI (a + 2 * p + 1)).toNatClampNeg = a + 2 * p + 1 := nI_clamp (by omega)
        refine v_go rfl ?_
        refine v_bF rfl (nI_ge (by omega) (by omega)) ?_
        refine v_go rfl ?_
        rw [ix2]
        refine v_sd rfl i1 ?_
        rw [c1, hs _ (by omega)]
        refine v_go rfl ?_
        rw [ix3]
        refine v_sd rfl i2 ?_
        rw [c2, hs _ (by omega)]
        refine v_ca rfl ?_
        refine c_isAct (fun z => ?_) (fun z => ?_)
        · have ih := ih (p + 1) (by omega) (fun p' hp' => by
            by_cases e : p' = p
            · rw [e]
              exact z
            · exact hp p' (by omega))
          rw [← nI_1] at ih
          refine v_go rfl ?_
          refine v_bT rfl (by decide) ?_
          exact v_run 2 rfl ih
        · refine v_go rfl ?_
          refine v_bF rfl (by decide) ?_
          exact v_go rfl (v_rt rfl (Or.inl rfl) (h0 (fun y => z (y p (by omega)))))
    exact key m 0 (by omega) (fun p hp => absurd hp (by omega))
  · refine v_in (tb' := t_X4_areActs) (rk' := 2) rfl rfl rfl ?_
    refine v_run 2 rfl ?_
    have key : ∀ (q p : Nat), p + q = m → allA f a p → m_V L (d + 2) Q t_X4_areActs 2 (3, [some (.ref 0), some (.ref (24 + 2 * 1)), some (.int (nI a)), some (.int (nI m)), some (.int (nI p))], [], D) := by
      intro q
      induction q with
      | zero =>
        intro p hq hp
        have hq : p = m := by omega
        subst hq
        refine v_go rfl ?_
        refine v_bT rfl (Int32.le_refl _) ?_
        exact v_go rfl (v_rt rfl (Or.inr rfl) (h1 hp))
      | succ q ih =>
        intro p hq hp
        have i1 : vp_in (nI (a + 2 * p)) 60 := vp_in_nI (by omega) (by omega)
        have c1 : (nI (a + 2 * p)).toNatClampNeg = a + 2 * p := nI_clamp (by omega)
        have i2 : vp_in (nI (a + 2 * p + 1)) 60 := vp_in_nI (by omega) (by omega)
        have c2 : (nI (a + 2 * p + 1)).toNatClampNeg = a + 2 * p + 1 := nI_clamp (by omega)
        refine v_go rfl ?_
        refine v_bF rfl (nI_ge (by omega) (by omega)) ?_
        refine v_go rfl ?_
        rw [ix2]
        refine v_sd rfl i1 ?_
        rw [c1, hs _ (by omega)]
        refine v_go rfl ?_
        rw [ix3]
        refine v_sd rfl i2 ?_
        rw [c2, hs _ (by omega)]
        refine v_ca rfl ?_
        refine c_isAct (fun z => ?_) (fun z => ?_)
        · have ih := ih (p + 1) (by omega) (fun p' hp' => by
            by_cases e : p' = p
            · rw [e]
              exact z
            · exact hp p' (by omega))
          rw [← nI_1] at ih
          refine v_go rfl ?_
          refine v_bT rfl (by decide) ?_
          exact v_run 2 rfl ih
        · refine v_go rfl ?_
          refine v_bF rfl (by decide) ?_
          exact v_go rfl (v_rt rfl (Or.inl rfl) (h0 (fun y => z (y p (by omega)))))
    exact key m 0 (by omega) (fun p hp => absurd hp (by omega))
  · refine v_in (tb' := t_X4_areActs) (rk' := 2) rfl rfl rfl ?_
    refine v_run 2 rfl ?_
    have key : ∀ (q p : Nat), p + q = m → allA f a p → m_V L (d + 2) Q t_X4_areActs 2 (3, [some (.ref 0), some (.ref (24 + 2 * 2)), some (.int (nI a)), some (.int (nI m)), some (.int (nI p))], [], D) := by
      intro q
      induction q with
      | zero =>
        intro p hq hp
        have hq : p = m := by omega
        subst hq
        refine v_go rfl ?_
        refine v_bT rfl (Int32.le_refl _) ?_
        exact v_go rfl (v_rt rfl (Or.inr rfl) (h1 hp))
      | succ q ih =>
        intro p hq hp
        have i1 : vp_in (nI (a + 2 * p)) 60 := vp_in_nI (by omega) (by omega)
        have c1 : (nI (a + 2 * p)).toNatClampNeg = a + 2 * p := nI_clamp (by omega)
        have i2 : vp_in (nI (a + 2 * p + 1)) 60 := vp_in_nI (by omega) (by omega)
        have c2 : (nI (a + 2 * p + 1)).toNatClampNeg = a + 2 * p + 1 := nI_clamp (by omega)
        refine v_go rfl ?_
        refine v_bF rfl (nI_ge (by omega) (by omega)) ?_
        refine v_go rfl ?_
        rw [ix2]
        refine v_sd rfl i1 ?_
        rw [c1, hs _ (by omega)]
        refine v_go rfl ?_
        rw [ix3]
        refine v_sd rfl i2 ?_
        rw [c2, hs _ (by omega)]
        refine v_ca rfl ?_
        refine c_isAct (fun z => ?_) (fun z => ?_)
        · have ih := ih (p + 1) (by omega) (fun p' hp' => by
            by_cases e : p' = p
            · rw [e]
              exact z
            · exact hp p' (by omega))
          rw [← nI_1] at ih
          refine v_go rfl ?_
          refine v_bT rfl (by decide) ?_
          exact v_run 2 rfl ih
        · refine v_go rfl ?_
          refine v_bF rfl (by decide) ?_
          exact v_go rfl (v_rt rfl (Or.inl rfl) (h0 (fun y => z (y p (by omega)))))
    exact key m 0 (by omega) (fun p hp => absurd hp (by omega))
  · refine v_in (tb' := t_X4_areActs) (rk' := 2) rfl rfl rfl ?_
    refine v_run 2 rfl ?_
    have key : ∀ (q p : Nat), p + q = m → allA f a p → m_V L (d + 2) Q t_X4_areActs 2 (3, [some (.ref 0), some (.ref (24 + 2 * 3)), some (.int (nI a)), some (.int (nI m)), some (.int (nI p))], [], D) := by
      intro q
      induction q with
      | zero =>
        intro p hq hp
        have hq : p = m := by omega
        subst hq
        refine v_go rfl ?_
        refine v_bT rfl (Int32.le_refl _) ?_
        exact v_go rfl (v_rt rfl (Or.inr rfl) (h1 hp))
      | succ q ih =>
        intro p hq hp
        have i1 : vp_in (nI (a + 2 * p)) 60 := vp_in_nI (by omega) (by omega)
        have c1 : (nI (a + 2 * p)).toNatClampNeg = a + 2 * p := nI_clamp (by omega)
        have i2 : vp_in (nI (a + 2 * p + 1)) 60 := vp_in_nI (by omega) (by omega)
        have c2 : (nI (a + 2 * p + 1)).toNatClampNeg = a + 2 * p + 1 := nI_clamp (by omega)
        refine v_go rfl ?_
        refine v_bF rfl (nI_ge (by omega) (by omega)) ?_
        refine v_go rfl ?_
        rw [ix2]
        refine v_sd rfl i1 ?_
        rw [c1, hs _ (by omega)]
        refine v_go rfl ?_
        rw [ix3]
        refine v_sd rfl i2 ?_
        rw [c2, hs _ (by omega)]
        refine v_ca rfl ?_
        refine c_isAct (fun z => ?_) (fun z => ?_)
        · have ih := ih (p + 1) (by omega) (fun p' hp' => by
            by_cases e : p' = p
            · rw [e]
              exact z
            · exact hp p' (by omega))
          rw [← nI_1] at ih
          refine v_go rfl ?_
          refine v_bT rfl (by decide) ?_
          exact v_run 2 rfl ih
        · refine v_go rfl ?_
          refine v_bF rfl (by decide) ?_
          exact v_go rfl (v_rt rfl (Or.inl rfl) (h0 (fun y => z (y p (by omega)))))
    exact key m 0 (by omega) (fun p hp => absurd hp (by omega))
end
section
/-! ===== day ===== -/
theorem c_firstWrong {L d k a m n : Nat} {f : Nat → Int32} {S : SH} {D : m_D} {Q : m_K} (hk : k < 4) (hn : n ≤ 60) (ham : a + 2 * m ≤ n) (hs : ∀ i, i < n → D (25 + 2 * k) i = f i) (hr : relC 1 D S) (ho : okS S) (hA : allA f a m) (h : ∀ D', m_fr z_T D D' → ((p_dy S (cA f a) m).2 = none → relC 8 D' (p_dy S (cA f a) m).1) → Q (some (.int (oI (p_dy S (cA f a) m).2))) D') : m_call L (d + 3) 41 [.ref 0, .ref (24 + 2 * k), .int (nI a), .int (nI m)] D Q := by
  have hk4 : k = 0 ∨ k = 1 ∨ k = 2 ∨ k = 3 := by omega
  rcases hk4 with rfl | rfl | rfl | rfl
  · refine v_in (tb' := t_X4_firstWrong) (rk' := 1) rfl rfl rfl ?_
    refine v_go rfl ?_
    refine v_ca rfl ?_
    refine c_become hr ho (fun D1 hf1 hr1 => ?_)
    have key : ∀ (q p : Nat) (S1 : SH) (D2 : m_D), p + q = m → p_dy S (cA f a) p = (S1, none) → okS S1 → m_fr z_T D D2 → relC 8 D2 S1 → m_V L (d + 2) Q t_X4_firstWrong 1 (14, [some (.ref 0), some (.ref (24 + 2 * 0)), some (.int (nI a)), some (.int (nI m)), some (.int (nI p))], [], D2) := by
      intro q
      induction q with
      | zero =>
        intro p S1 D2 hq hd ho1 hf2 hr2
        have hq : p = m := by omega
        subst hq
        have h := h D2 hf2 (fun _ => by rw [hd]; exact hr2)
        rw [hd] at h
        refine v_go rfl ?_
        refine v_bT rfl (Int32.le_refl _) ?_
        exact v_go rfl (v_rt rfl trivial h)
      | succ q ih =>
        intro p S1 D2 hq hd ho1 hf2 hr2
        have i1 : vp_in (nI (a + 2 * p)) 60 := vp_in_nI (by omega) (by omega)
        have c1 : (nI (a + 2 * p)).toNatClampNeg = a + 2 * p := nI_clamp (by omega)
        have i2 : vp_in (nI (a + 2 * p + 1)) 60 := vp_in_nI (by omega) (by omega)
        have c2 : (nI (a + 2 * p + 1)).toNatClampNeg = a + 2 * p + 1 := nI_clamp (by omega)
        have hs2 : ∀ i, i < n → D2 (25 + 2 * 0) i = f i := fun i hi => by
          rw [hf2 (25 + 2 * 0) (by decide)]
          exact hs i hi
        obtain ⟨ea, eb, hok⟩ := act_ok (hA p (by omega))
        refine v_go rfl ?_
        refine v_bF rfl (nI_ge (by omega) (by omega)) ?_
        refine v_go rfl ?_
        rw [ix2]
        refine v_sd rfl i1 ?_
        rw [c1, hs2 _ (by omega)]
        refine v_go rfl ?_
        rw [ix3]
        refine v_sd rfl i2 ?_
        rw [c2, hs2 _ (by omega), ea, eb]
        refine v_ca rfl ?_
        refine c_does hr2 ho1 hok (fun D3 S2 e hf3 hr3 => ?_) (fun e => ?_)
        · have ih := ih (p + 1) S2 D3 (by omega) (p_dy_s hd e) (p_do_ok ho1 hok e).1 (hf2.trans hf3) hr3
          rw [← nI_1] at ih
          refine v_go rfl ?_
          refine v_bT rfl (by decide) ?_
          exact v_run 2 rfl ih
        · have e1 := p_dy_w (p_dy_n hd e) q
          rw [show p + 1 + q = m by omega] at e1
          have h := h D2 hf2 (fun z => by rw [e1] at z; cases z)
          rw [e1] at h
          refine v_go rfl ?_
          refine v_bF rfl (by decide) ?_
          exact v_go rfl (v_rt rfl trivial h)
    exact v_run 2 rfl (key m 0 S D1 (by omega) rfl ho hf1 hr1)
  · refine v_in (tb' := t_X4_firstWrong) (rk' := 1) rfl rfl rfl ?_
    refine v_go rfl ?_
    refine v_ca rfl ?_
    refine c_become hr ho (fun D1 hf1 hr1 => ?_)
    have key : ∀ (q p : Nat) (S1 : SH) (D2 : m_D), p + q = m → p_dy S (cA f a) p = (S1, none) → okS S1 → m_fr z_T D D2 → relC 8 D2 S1 → m_V L (d + 2) Q t_X4_firstWrong 1 (14, [some (.ref 0), some (.ref (24 + 2 * 1)), some (.int (nI a)), some (.int (nI m)), some (.int (nI p))], [], D2) := by
      intro q
      induction q with
      | zero =>
        intro p S1 D2 hq hd ho1 hf2 hr2
        have hq : p = m := by omega
        subst hq
        have h := h D2 hf2 (fun _ => by rw [hd]; exact hr2)
        rw [hd] at h
        refine v_go rfl ?_
        refine v_bT rfl (Int32.le_refl _) ?_
        exact v_go rfl (v_rt rfl trivial h)
      | succ q ih =>
        intro p S1 D2 hq hd ho1 hf2 hr2
        have i1 : vp_in (nI (a + 2 * p)) 60 := vp_in_nI (by omega) (by omega)
        have c1 : (nI (a + 2 * p)).toNatClampNeg = a + 2 * p := nI_clamp (by omega)
        have i2 : vp_in (nI (a + 2 * p + 1)) 60 := vp_in_nI (by omega) (by omega)
        have c2 : (nI (a + 2 * p + 1)).toNatClampNeg = a + 2 * p + 1 := nI_clamp (by omega)
        have hs2 : ∀ i, i < n → D2 (25 + 2 * 1) i = f i := fun i hi => by
          rw [hf2 (25 + 2 * 1) (by decide)]
          exact hs i hi
        obtain ⟨ea, eb, hok⟩ := act_ok (hA p (by omega))
        refine v_go rfl ?_
        refine v_bF rfl (nI_ge (by omega) (by omega)) ?_
        refine v_go rfl ?_
        rw [ix2]
        refine v_sd rfl i1 ?_
        rw [c1, hs2 _ (by omega)]
        refine v_go rfl ?_
        rw [ix3]
        refine v_sd rfl i2 ?_
        rw [c2, hs2 _ (by omega), ea, eb]
        refine v_ca rfl ?_
        refine c_does hr2 ho1 hok (fun D3 S2 e hf3 hr3 => ?_) (fun e => ?_)
        · have ih := ih (p + 1) S2 D3 (by omega) (p_dy_s hd e) (p_do_ok ho1 hok e).1 (hf2.trans hf3) hr3
          rw [← nI_1] at ih
          refine v_go rfl ?_
          refine v_bT rfl (by decide) ?_
          exact v_run 2 rfl ih
        · have e1 := p_dy_w (p_dy_n hd e) q
          rw [show p + 1 + q = m by omega] at e1
          have h := h D2 hf2 (fun z => by rw [e1] at z; cases z)
          rw [e1] at h
          refine v_go rfl ?_
          refine v_bF rfl (by decide) ?_
          exact v_go rfl (v_rt rfl trivial h)
    exact v_run 2 rfl (key m 0 S D1 (by omega) rfl ho hf1 hr1)
  · refine v_in (tb' := t_X4_firstWrong) (rk' := 1) rfl rfl rfl ?_
    refine v_go rfl ?_
    refine v_ca rfl ?_
    refine c_become hr ho (fun D1 hf1 hr1 => ?_)
    have key : ∀ (q p : Nat) (S1 : SH) (D2 : m_D), p + q = m → p_dy S (cA f a) p = (S1, none) → okS S1 → m_fr z_T D D2 → relC 8 D2 S1 → m_V L (d + 2) Q t_X4_firstWrong 1 (14, [some (.ref 0), some (.ref (24 + 2 * 2)), some (.int (nI a)), some (.int (nI m)), some (.int (nI p))], [], D2) := by
      intro q
      induction q with
      | zero =>
        intro p S1 D2 hq hd ho1 hf2 hr2
        have hq : p = m := by omega
        subst hq
        have h := h D2 hf2 (fun _ => by rw [hd]; exact hr2)
        rw [hd] at h
        refine v_go rfl ?_
        refine v_bT rfl (Int32.le_refl _) ?_
        exact v_go rfl (v_rt rfl trivial h)
      | succ q ih =>
        intro p S1 D2 hq hd ho1 hf2 hr2
        have i1 : vp_in (nI (a + 2 * p)) 60 := vp_in_nI (by omega) (by omega)
        have c1 : (nI (a + 2 * p)).toNatClampNeg = a + 2 * p := nI_clamp (by omega)
        have i2 : vp_in (nI (a + 2 * p + 1)) 60 := vp_in_nI (by omega) (by omega)
        have c2 : (nI (a + 2 * p + 1)).toNatClampNeg = a + 2 * p + 1 := nI_clamp (by omega)
        have hs2 : ∀ i, i < n → D2 (25 + 2 * 2) i = f i := fun i hi => by
          rw [hf2 (25 + 2 * 2) (by decide)]
          exact hs i hi
        obtain ⟨ea, eb, hok⟩ := act_ok (hA p (by omega))
        refine v_go rfl ?_
        refine v_bF rfl (nI_ge (by omega) (by omega)) ?_
        refine v_go rfl ?_
        rw [ix2]
        refine v_sd rfl i1 ?_
        rw [c1, hs2 _ (by omega)]
        refine v_go rfl ?_
        rw [ix3]
        refine v_sd rfl i2 ?_
        rw [c2, hs2 _ (by omega), ea, eb]
        refine v_ca rfl ?_
        refine c_does hr2 ho1 hok (fun D3 S2 e hf3 hr3 => ?_) (fun e => ?_)
        · have ih := ih (p + 1) S2 D3 (by omega) (p_dy_s hd e) (p_do_ok ho1 hok e).1 (hf2.trans hf3) hr3
          rw [← nI_1] at ih
          refine v_go rfl ?_
          refine v_bT rfl (by decide) ?_
          exact v_run 2 rfl ih
        · have e1 := p_dy_w (p_dy_n hd e) q
          rw [show p + 1 + q = m by omega] at e1
          have h := h D2 hf2 (fun z => by rw [e1] at z; cases z)
          rw [e1] at h
          refine v_go rfl ?_
          refine v_bF rfl (by decide) ?_
          exact v_go rfl (v_rt rfl trivial h)
    exact v_run 2 rfl (key m 0 S D1 (by omega) rfl ho hf1 hr1)
  · refine v_in (tb' := t_X4_firstWrong) (rk' := 1) rfl rfl rfl ?_
    refine v_go rfl ?_
    refine v_ca rfl ?_
    refine c_become hr ho (fun D1 hf1 hr1 => ?_)
    have key : ∀ (q p : Nat) (S1 : SH) (D2 : m_D), p + q = m → p_dy S (cA f a) p = (S1, none) → okS S1 → m_fr z_T D D2 → relC 8 D2 S1 → m_V L (d + 2) Q t_X4_firstWrong 1 (14, [some (.ref 0), some (.ref (24 + 2 * 3)), some (.int (nI a)), some (.int (nI m)), some (.int (nI p))], [], D2) := by
      intro q
      induction q with
      | zero =>
        intro p S1 D2 hq hd ho1 hf2 hr2
        have hq : p = m := by omega
        subst hq
        have h := h D2 hf2 (fun _ => by rw [hd]; exact hr2)
        rw [hd] at h
        refine v_go rfl ?_
        refine v_bT rfl (Int32.le_refl _) ?_
        exact v_go rfl (v_rt rfl trivial h)
      | succ q ih =>
        intro p S1 D2 hq hd ho1 hf2 hr2
        have i1 : vp_in (nI (a + 2 * p)) 60 := vp_in_nI (by omega) (by omega)
        have c1 : (nI (a + 2 * p)).toNatClampNeg = a + 2 * p := nI_clamp (by omega)
        have i2 : vp_in (nI (a + 2 * p + 1)) 60 := vp_in_nI (by omega) (by omega)
        have c2 : (nI (a + 2 * p + 1)).toNatClampNeg = a + 2 * p + 1 := nI_clamp (by omega)
        have hs2 : ∀ i, i < n → D2 (25 + 2 * 3) i = f i := fun i hi => by
          rw [hf2 (25 + 2 * 3) (by decide)]
          exact hs i hi
        obtain ⟨ea, eb, hok⟩ := act_ok (hA p (by omega))
        refine v_go rfl ?_
        refine v_bF rfl (nI_ge (by omega) (by omega)) ?_
        refine v_go rfl ?_
        rw [ix2]
        refine v_sd rfl i1 ?_
        rw [c1, hs2 _ (by omega)]
        refine v_go rfl ?_
        rw [ix3]
        refine v_sd rfl i2 ?_
        rw [c2, hs2 _ (by omega), ea, eb]
        refine v_ca rfl ?_
        refine c_does hr2 ho1 hok (fun D3 S2 e hf3 hr3 => ?_) (fun e => ?_)
        · have ih := ih (p + 1) S2 D3 (by omega) (p_dy_s hd e) (p_do_ok ho1 hok e).1 (hf2.trans hf3) hr3
          rw [← nI_1] at ih
          refine v_go rfl ?_
          refine v_bT rfl (by decide) ?_
          exact v_run 2 rfl ih
        · have e1 := p_dy_w (p_dy_n hd e) q
          rw [show p + 1 + q = m by omega] at e1
          have h := h D2 hf2 (fun z => by rw [e1] at z; cases z)
          rw [e1] at h
          refine v_go rfl ?_
          refine v_bF rfl (by decide) ?_
          exact v_go rfl (v_rt rfl trivial h)
    exact v_run 2 rfl (key m 0 S D1 (by omega) rfl ho hf1 hr1)
def sp_day (S : SH) (wr : Option Nat) (w : Int32) : Int32 := if w = 1 then oI wr else match wr with
  | some p => -100 - nI p
  | none => if w = 0 then nI (p_all S) else if w = 2 then p_hang S S.1 else if w = 3 then p_mud S S.1 else if w = 4 then nI (p_lost S S.1) else nI (p_wet S (w - 10).toNatClampNeg S.1)
def p_ask (w : Int32) : Prop := vp_in w 5 ∨ ∃ f, f < 4 ∧ w = nI (10 + f)
theorem ask_iff (w : Int32) : p_ask w ↔ vp_in w 5 ∨ ((10 : Int32) ≤ w ∧ w < 14) := by
  unfold p_ask
  constructor
  · rintro (h | ⟨f, hf, rfl⟩)
    · exact Or.inl h
    · exact Or.inr ⟨nI_le (a := 10) (by omega) (by omega), nI_lt (b := 14) (by omega) (by omega)⟩
  · rintro (h | ⟨h1, h2⟩)
    · exact Or.inl h
    · have h0 : ¬ w < 0 := by
        rw [Int32.lt_iff_toInt_lt]
        rw [Int32.le_iff_toInt_le] at h1
        have e1 : (10 : Int32).toInt = 10 := by decide
        have e0 : (0 : Int32).toInt = 0 := by decide
        omega
      obtain ⟨j, hj, rfl⟩ := nI_of h0
      have h3 := (nI_leI (a := 10) (by omega) hj).mp h1
      have h4 := (nI_ltI (b := 14) hj (by omega)).mp h2
      exact Or.inr ⟨j - 10, by omega, by rw [show 10 + (j - 10) = j by omega]⟩
theorem c_isAsked {L d : Nat} {w : Int32} {D : m_D} {Q : m_K} (h1 : p_ask w → Q (some (.int 1)) D) (h0 : ¬ p_ask w → Q (some (.int 0)) D) : m_call L (d + 2) 43 [.int w] D Q := by
  rw [ask_iff] at h1 h0
  have l10 : w < 10 ↔ ¬ (10 : Int32) ≤ w := by
    rw [Int32.le_iff_toInt_le, Int32.lt_iff_toInt_lt]
    omega
  have l14 : (14 : Int32) ≤ w ↔ ¬ w < 14 := by
    rw [Int32.le_iff_toInt_le, Int32.lt_iff_toInt_lt]
    omega
  refine v_in (tb' := t_X4_isAskedOfDay) (rk' := 2) rfl rfl rfl ?_
  refine v_go rfl ?_
  refine v_ca rfl ?_
  refine c_isWithin (n := 4) (by omega) (fun z => ?_) (fun z => ?_)
  · refine v_go rfl ?_
    refine v_bT rfl (by decide) ?_
    exact v_go rfl (v_rt rfl (Or.inr rfl) (h1 (Or.inl z)))
  · refine v_go rfl ?_
    refine v_bF rfl (by decide) ?_
    refine v_go rfl ?_
    refine v_br rfl (fun z2 => ?_) (fun z2 => ?_)
    · exact v_go rfl (v_rt rfl (Or.inl rfl) (h0 (fun y => y.elim z (fun y => l10.mp z2 y.1))))
    · have z2 : (10 : Int32) ≤ w := Decidable.not_not.mp (fun q => z2 (l10.mpr q))
      refine v_go rfl ?_
      refine v_br rfl (fun z3 => ?_) (fun z3 => ?_)
      · exact v_go rfl (v_rt rfl (Or.inl rfl) (h0 (fun y => y.elim z (fun y => l14.mp z3 y.2))))
      · have z3 : w < 14 := Decidable.not_not.mp (fun q => z3 (l14.mpr q))
        exact v_go rfl (v_rt rfl (Or.inr rfl) (h1 (Or.inr ⟨z2, z3⟩)))
theorem askM (w : Int32) : (((0 : Int64) ≤ w.toInt64 ∧ w.toInt64 ≤ 4) ∨ ((10 : Int64) ≤ w.toInt64 ∧ w.toInt64 ≤ 13)) ↔ p_ask w := by
  rw [ask_iff, ← in_iff (g := 4) (n := 5) (by decide)]
  have e : ((10 : Int64) ≤ w.toInt64 ∧ w.toInt64 ≤ 13) ↔ ((10 : Int32) ≤ w ∧ w < 14) := by
    rw [Int64.le_iff_toInt_le, Int64.le_iff_toInt_le, Int32.toInt_toInt64, Int32.le_iff_toInt_le, Int32.lt_iff_toInt_lt]
    have e1 : (10 : Int64).toInt = 10 := by decide
    have e2 : (13 : Int64).toInt = 13 := by decide
    have e3 : (10 : Int32).toInt = 10 := by decide
    have e4 : (14 : Int32).toInt = 14 := by decide
    omega
  rw [e]
theorem ask_case {w : Int32} (h : p_ask w) (h1 : ¬ w = 1) : w = 0 ∨ w = 2 ∨ w = 3 ∨ w = 4 ∨ ∃ f, f < 4 ∧ w = nI (10 + f) := by
  rcases h with h | h
  · obtain ⟨j, hj, rfl⟩ := vp_in_of h (by omega)
    match j, hj with
    | 0, _ => exact Or.inl rfl
    | 1, _ => exact absurd rfl h1
    | 2, _ => exact Or.inr (Or.inl rfl)
    | 3, _ => exact Or.inr (Or.inr (Or.inl rfl))
    | 4, _ => exact Or.inr (Or.inr (Or.inr (Or.inl rfl)))
  · exact Or.inr (Or.inr (Or.inr (Or.inr h)))
theorem t10 : ∀ f, f < 4 → (¬ nI (10 + f) = 1 ∧ ¬ nI (10 + f) = 0 ∧ ¬ nI (10 + f) = 2 ∧ ¬ nI (10 + f) = 3 ∧ ¬ nI (10 + f) = 4) ∧ nI (10 + f) - 10 = nI f := by decide +kernel
theorem sp_day10 {S : SH} {f : Nat} (hf : f < 4) : sp_day S none (nI (10 + f)) = nI (p_wet S f S.1) := by
  obtain ⟨⟨a1, a2, a3, a4, a5⟩, e⟩ := t10 f hf
  unfold sp_day
  rw [if_neg a1]
  dsimp only
  rw [if_neg a2, if_neg a3, if_neg a4, if_neg a5, e, nI_clamp (by omega)]
theorem c_answerOfDay {L d : Nat} {w : Int32} {S : SH} {wr : Option Nat} {D : m_D} {Q : m_K} (ho : okS S) (hwr : ∀ p, wr = some p → p < 100) (hr : wr = none → relC 8 D S) (hw : p_ask w) (h : ∀ D', m_fr z_F D D' → Q (some (.int (sp_day S wr w))) D') : m_call L (d + 5) 42 [.ref 0, .int (oI wr), .int w] D Q := by
  refine v_in (tb' := t_X4_answerOfDay) (rk' := 1) rfl rfl rfl ?_
  refine v_go rfl ?_
  by_cases e1 : w = 1
  · have h := h D (m_fr.refl _ _)
    unfold sp_day at h
    rw [if_pos e1] at h
    refine v_bF rfl (fun z => z e1) ?_
    exact v_go rfl (v_rt rfl trivial h)
  · refine v_bT rfl e1 ?_
    refine v_go rfl ?_
    cases wr with
    | some p =>
      have h := h D (m_fr.refl _ _)
      unfold sp_day at h
      rw [if_neg e1] at h
      refine v_bF rfl (nI_m9 (by have := hwr p rfl; omega)) ?_
      exact v_go rfl (v_rt rfl trivial h)
    | none =>
      refine v_bT rfl rfl ?_
      refine v_go rfl ?_
      refine v_ca rfl ?_
      refine c_workOut (Or.inr rfl) (hr rfl) ho (fun D3 hf3 hF => ?_)
      have h := h D3 hf3
      have hall := hF.2.2.1
      refine v_go rfl ?_
      refine v_sw rfl ?_
      rcases ask_case hw e1 with rfl | rfl | rfl | rfl | ⟨f, hf, rfl⟩
      · refine ⟨fun _ => ?_, fun z => absurd rfl z⟩
        refine v_go rfl ?_
        refine v_ca rfl ?_
        refine c_wetAll hall ?_
        exact v_rt rfl trivial h
      · refine ⟨fun z => absurd z (by decide), fun _ => ⟨fun z => absurd z (by decide), fun _ => ⟨fun _ => ?_, fun z => absurd rfl z⟩⟩⟩
        have e5 : D3 15 5 = p_hang S S.1 := hF.2.2.2.1
        refine v_go rfl ?_
        rw [e5]
        exact v_rt rfl trivial h
      · refine ⟨fun z => absurd z (by decide), fun _ => ⟨fun z => absurd z (by decide), fun _ => ⟨fun z => absurd z (by decide), fun _ => ⟨fun _ => ?_, fun z => absurd rfl z⟩⟩⟩⟩
        have e6 : D3 15 6 = p_mud S S.1 := hF.2.2.2.2.1
        refine v_go rfl ?_
        rw [e6]
        exact v_rt rfl trivial h
      · refine ⟨fun z => absurd z (by decide), fun _ => ⟨fun z => absurd z (by decide), fun _ => ⟨fun z => absurd z (by decide), fun _ => ⟨fun z => absurd z (by decide), fun _ => ⟨fun _ => ?_, fun z => absurd rfl z⟩⟩⟩⟩⟩
        have e7 : D3 15 7 = nI (p_lost S S.1) := hF.2.2.2.2.2
        refine v_go rfl ?_
        rw [e7]
        exact v_rt rfl trivial h
      · obtain ⟨⟨a1, a2, a3, a4, a5⟩, e⟩ := t10 f hf
        refine ⟨fun z => absurd z a2, fun _ => ⟨fun z => absurd z a1, fun _ => ⟨fun z => absurd z a3, fun _ => ⟨fun z => absurd z a4, fun _ => ⟨fun z => absurd z a5, fun _ => ?_⟩⟩⟩⟩⟩
        rw [sp_day10 hf] at h
        refine v_go rfl ?_
        rw [e]
        refine v_sd rfl (vp_in_nI hf (by omega)) ?_
        rw [nI_clamp (by omega), hall f hf]
        exact v_rt rfl trivial h
abbrev z_MD : List Nat := [35, 39, 40, 46, 47, 48, 49, 50]
theorem mdA {D D' : m_D} (hf : m_fM [35, 39, 40] [] D D') : m_fM z_MD [22] D D' := hf.sub (by simp) (by simp)
theorem mdR {D D' : m_D} (hf : m_fM z_R [22] D D') : m_fM z_MD [22] D D' := hf.sub (by simp) (by simp)
theorem c_dayOf {L d b a m : Nat} {f : Nat → Int32} {w : Int32} {S : SH} {D : m_D} {Q : m_K} (hb : b ≤ 180) (ham : a + 2 * m ≤ 60) (hs : ∀ i, i < a + 2 * m → D 58 (b + i) = f i) (hr : relM D S) (ho : okS S) (hA : allA f a m) (hw : p_ask w) (h : ∀ D', m_fM z_MD [22] D D' → relM D' (p_dy S (cA f a) m).1 → Q (some (.int (sp_day (p_dy S (cA f a) m).1 (p_dy S (cA f a) m).2 w))) D') : m_call L (d + 5) 128 [.ref 34, .int (nI (b + a)), .int (nI m), .int w] D Q := by
  have hn6 := ho.1
  have fin : ∀ (S1 : SH) (wr : Option Nat) (z : Option Value) (D1 : m_D), p_dy S (cA f a) m = (S1, wr) → okS S1 → (∀ p, wr = some p → p < 100) → m_fM z_MD [22] D D1 → relM D1 S1 → m_V L (d + 4) Q t_X5_dayOf 1 (64, [some (.ref 34), some (.int (nI (b + a))), some (.int (nI m)), some (.int w), some (.int (oI wr)), z], [], D1) := by
    intro S1 wr z D1 hd ho1 hwr hf1 hr1
    rw [hd] at h
    have hn6 := ho1.1
    have hk3 := ho1.2.1
    refine v_go rfl ?_
    by_cases e1 : w = 1
    · have h := h D1 hf1 hr1
      unfold sp_day at h
      rw [if_pos e1] at h
      refine v_bF rfl (fun z => z e1) ?_
      exact v_go rfl (v_rt rfl trivial h)
    · refine v_bT rfl e1 ?_
      refine v_go rfl ?_
      cases wr with
      | some p =>
        have h := h D1 hf1 hr1
        unfold sp_day at h
        rw [if_neg e1] at h
        refine v_bF rfl (nI_pos (n := p) (by have := hwr p rfl; omega)) ?_
        exact v_go rfl (v_rt rfl trivial h)
      | none =>
        refine v_bT rfl (by decide) ?_
        refine v_go rfl ?_
        refine v_ca rfl ?_
        refine c_rains hr1 ho1 (fun D3 hf3 hF => ?_)
        have hr3 := relM_keep hf3 (by decide) (by decide) hr1
        have h := h D3 (hf1.trans (mdR hf3)) hr3
        have hall := hF.2.2.1
        refine v_go rfl ?_
        rcases ask_case hw e1 with rfl | rfl | rfl | rfl | ⟨g, hg, rfl⟩
        · refine v_bT rfl (by decide) ?_
          refine v_go rfl ?_
          refine v_bF rfl (fun z => z rfl) ?_
          refine v_go rfl ?_
          refine v_ca rfl ?_
          refine c_wetAllM hall ?_
          exact v_go rfl (v_rt rfl trivial h)
        · refine v_bT rfl (by decide) ?_
          refine v_go rfl ?_
          refine v_bT rfl (by decide) ?_
          refine v_go rfl ?_
          refine v_bF rfl (fun z => z rfl) ?_
          refine v_go rfl ?_
          refine v_ca rfl ?_
          refine c_hang hr3.1 hn6 (fun i hi => (hF.1 i hi).1) ?_
          exact v_go rfl (v_rt rfl trivial h)
        · refine v_bT rfl (by decide) ?_
          refine v_go rfl ?_
          refine v_bT rfl (by decide) ?_
          refine v_go rfl ?_
          refine v_bT rfl (by decide) ?_
          refine v_go rfl ?_
          refine v_bF rfl (fun z => z rfl) ?_
          refine v_go rfl ?_
          refine v_ca rfl ?_
          refine c_mud hr3.1 hn6 hk3 (fun i hi => ⟨(hF.1 i hi).1, (hF.1 i hi).2.1⟩) ?_
          exact v_go rfl (v_rt rfl trivial h)
        · have e7 : D3 34 22 = nI (p_lost S1 S1.1) := hF.2.2.2
          refine v_bT rfl (by decide) ?_
          refine v_go rfl ?_
          refine v_bT rfl (by decide) ?_
          refine v_go rfl ?_
          refine v_bT rfl (by decide) ?_
          refine v_go rfl ?_
          refine v_bT rfl (by decide) ?_
          refine v_go rfl ?_
          rw [e7]
          exact v_rt rfl trivial h
        · obtain ⟨-, e⟩ := t10 g hg
          rw [sp_day10 hg] at h
          refine v_bF rfl (nI_nlt (b := 10) (by omega) (by omega)) ?_
          refine v_go rfl ?_
          rw [e]
          refine v_sd rfl (vp_in_nI hg (by omega)) ?_
          rw [nI_clamp (by omega), hall g hg]
          exact v_go rfl (v_rt rfl trivial h)
  have key : ∀ (q p : Nat) (S1 : SH) (D2 : m_D), p + q = m → p_dy S (cA f a) p = (S1, none) → okS S1 → m_fM z_MD [22] D D2 → relM D2 S1 → m_V L (d + 4) Q t_X5_dayOf 1 (7, [some (.ref 34), some (.int (nI (b + a))), some (.int (nI m)), some (.int w), some (.int (-9)), some (.int (nI p))], [], D2) := by
    intro q
    induction q with
    | zero =>
      intro p S1 D2 hq hd ho1 hf2 hr2
      have hq : p = m := by omega
      subst hq
      refine v_go rfl ?_
      refine v_bT rfl (Int32.le_refl _) ?_
      exact fin S1 none _ D2 hd ho1 (fun p e => by cases e) hf2 hr2
    | succ q ih =>
      intro p S1 D2 hq hd ho1 hf2 hr2
      have i1 : vp_in (nI (b + a + 2 * p)) 240 := vp_in_nI (by omega) (by omega)
      have c1 : (nI (b + a + 2 * p)).toNatClampNeg = b + a + 2 * p := nI_clamp (by omega)
      have i2 : vp_in (nI (b + a + 2 * p + 1)) 240 := vp_in_nI (by omega) (by omega)
      have c2 : (nI (b + a + 2 * p + 1)).toNatClampNeg = b + a + 2 * p + 1 := nI_clamp (by omega)
      have e58 : D2 58 = D 58 := hf2.1 58 (by simp) (by decide)
      have s1 : D2 58 (b + a + 2 * p) = f (a + 2 * p) := by
        rw [e58, Nat.add_assoc]
        exact hs _ (by omega)
      have s2 : D2 58 (b + a + 2 * p + 1) = f (a + 2 * p + 1) := by
        rw [e58, Nat.add_assoc, Nat.add_assoc, ← Nat.add_assoc a]
        exact hs _ (by omega)
      obtain ⟨ea, eb, hok⟩ := act_ok (hA p (by omega))
      refine v_go rfl ?_
      refine v_bF rfl (nI_ge (by omega) (by omega)) ?_
      refine v_go rfl ?_
      refine v_bF rfl (by decide) ?_
      refine v_go rfl ?_
      rw [ix2]
      refine v_sd rfl i1 ?_
      rw [c1, s1]
      refine v_go rfl ?_
      rw [ix3]
      refine v_sd rfl i2 ?_
      rw [c2, s2, ea, eb]
      refine v_ca rfl ?_
      refine c_doesPair hr2 ho1 hok (fun D3 S2 e hf3 hr3 => ?_) (fun e => ?_)
      · have ih := ih (p + 1) S2 D3 (by omega) (p_dy_s hd e) (p_do_ok ho1 hok e).1 (hf2.trans (mdA hf3)) hr3
        rw [← nI_1] at ih
        refine v_go rfl ?_
        refine v_bF rfl (by decide) ?_
        exact v_run 5 rfl ih
      · have e1 := p_dy_w (p_dy_n hd e) q
        rw [show p + 1 + q = m by omega] at e1
        have fin := fin S1 (some p) (some (.int (nI (p + 1)))) D2 e1 ho1 (fun p' e => by cases e; omega) hf2 hr2
        rw [← nI_1] at fin
        refine v_go rfl ?_
        refine v_bT rfl rfl ?_
        refine v_go rfl ?_
        rw [nI_1]
        by_cases g : m ≤ p + 1
        · refine v_bT rfl (nI_le g (by omega)) ?_
          rw [nI_1] at fin
          exact fin
        · refine v_bF rfl (nI_ge (by omega) (by omega)) ?_
          rw [nI_1] at fin
          refine v_go rfl ?_
          refine v_bT rfl (nI_pos' (by omega)) ?_
          exact fin
  refine v_in (tb' := t_X5_dayOf) (rk' := 1) rfl rfl rfl ?_
  exact v_run 4 rfl (key m 0 S D (by omega) rfl ho (m_fM.refl _ _ _) hr)
theorem c_cellsBarred {L d k : Nat} {y i : Int32} {w : Int64} {s : Option (Nat × Nat × (Nat → Int32))} {D : m_D} {Q : m_K} (hk : k < 4) (hs : shM k D s) (h60 : ∀ la n f, s = some (la, n, f) → n ≤ 60) (hw : w.toInt < 2 ^ 40 ∧ -2 ^ 40 < w.toInt) (hN : s = none → Q (some (.int (-10 - 1))) (m_up D 34 0 1)) (hC : ∀ la n f, s = some (la, n, f) → ¬ nI la = y → Q (some (.int (-10 - 2))) (m_up D 34 0 2)) (hZ : ∀ la n f, s = some (la, n, f) → nI la = y → w.toInt < 0 → Q (some (.int (-10 - 4))) (m_up D 34 0 4)) (hX : ∀ la n f, s = some (la, n, f) → nI la = y → 0 ≤ w.toInt → ¬ rng i w.toInt n → Q (some (.int (-10 - 3))) (m_up D 34 0 3)) (hO : ∀ la n f, s = some (la, n, f) → nI la = y → rng i w.toInt n → Q (some (.int 0)) D) : m_call L (d + 2) 106 [.ref 34, .int (nI k), .int y, .int i, .long w] D Q := by
  have hin : vp_in (nI k) 4 := vp_in_nI (by omega) (by omega)
  have hck : (nI k).toNatClampNeg = k := nI_clamp (by omega)
  have wl : (0 : Int64) ≤ w ↔ 0 ≤ w.toInt := by
    rw [Int64.le_iff_toInt_le]
    rfl
  refine v_in (tb' := t_X5_cellsBarred) (rk' := 1) rfl rfl rfl ?_
  match s, hs, h60, hN, hC, hZ, hX, hO with
  | none, hs, h60, hN, hC, hZ, hX, hO =>
    have hs : D 56 k = -1 := hs
    refine v_go rfl ?_
    refine v_sd rfl hin ?_
    rw [hck, hs]
    refine v_bT rfl (by decide) ?_
    refine v_go rfl ?_
    refine v_sd rfl hin ?_
    rw [hck, hs]
    refine v_bF rfl (by decide) ?_
    refine v_go rfl ?_
    refine v_ca rfl ?_
    refine c_failed ?_
    exact v_rt rfl trivial (hN rfl)
  | some (la, n, f), hs, h60, hN, hC, hZ, hX, hO =>
    have hn := h60 la n f rfl
    obtain ⟨s1, s2, s3⟩ := hs
    refine v_go rfl ?_
    refine v_sd rfl hin ?_
    rw [hck, s1]
    refine v_bF rfl (nI_pos (by omega)) ?_
    refine v_go rfl ?_
    refine v_sd rfl hin ?_
    rw [hck, s2]
    refine v_go rfl ?_
    refine v_br rfl (fun z => ?_) (fun z => ?_)
    · refine v_go rfl ?_
      refine v_sd rfl hin ?_
      rw [hck, s1]
      refine v_bT rfl (nI_pos' (by omega)) ?_
      refine v_go rfl ?_
      refine v_br rfl (fun z2 => ?_) (fun z2 => ?_)
      · have z2 := wl.mp ((lg_cmp_ge _ _).mp z2)
        refine v_go rfl ?_
        refine v_sd rfl hin ?_
        rw [hck, s1]
        refine v_ca rfl ?_
        refine c_isBeyond hn hw (fun z3 => ?_) (fun z3 => ?_)
        · refine v_go rfl ?_
          refine v_bT rfl rfl ?_
          exact v_go rfl (v_rt rfl trivial (hO la n f rfl z z3))
        · refine v_go rfl ?_
          refine v_bF rfl (by decide) ?_
          refine v_go rfl ?_
          refine v_ca rfl ?_
          refine c_failed ?_
          exact v_go rfl (v_rt rfl trivial (hX la n f rfl z z2 z3))
      · have z2 : w.toInt < 0 := by
          apply Decidable.byContradiction
          intro q
          exact z2 ((lg_cmp_ge _ _).mpr (wl.mpr (by omega)))
        refine v_go rfl ?_
        refine v_ca rfl ?_
        refine c_failed ?_
        exact v_rt rfl trivial (hZ la n f rfl z z2)
    · refine v_go rfl ?_
      refine v_ca rfl ?_
      refine c_failed ?_
      exact v_rt rfl trivial (hC la n f rfl z)
end
section
/-! ===== day: all of it ===== -/
theorem w64 : ∀ m, m < 21 → ((2 : Int64) * (nI m).toInt64).toInt = ((2 * m : Nat) : Int) := by decide +kernel
theorem s_day (x y u w v : Int32) : StepI 38 131 [.int x, .int y, .int u, .int w, .int v] := by
  intro L Z hz
  obtain ⟨S, rd, sh, tr, fl⟩ := Z
  have hoS : okS S := hz.1
  have hn6 : S.1 ≤ 6 := hoS.1
  have hnk : S.1 = 0 ↔ S.2.1 = 0 := hz.2.1
  have hk3 : S.2.1 ≤ 3 := hoS.2.1
  by_cases hx : vp_in x 4
  · by_cases h2 : vp_in y 3 ∧ vp_in w 21 ∧ p_ask v
    · obtain ⟨hy, hw, hv⟩ := h2
      have xpre : ∀ (D : m_D) (Q : m_K), m_V L 7 Q t_X4_day 1 (42, [some (.ref 0), some (.int x), some (.int y), some (.int u), some (.int w), some (.int v), none, none], [], m_up D 0 9 0) → m_call L 8 38 [.ref 0, .int x, .int y, .int u, .int w, .int v] D Q := by
        intro D Q hk
        refine v_in (tb' := t_X4_day) (rk' := 1) rfl rfl rfl ?_
        refine v_go rfl ?_
        refine v_ca rfl ?_
        refine c_isSheet (fun _ => ?_) (fun z => absurd hx z)
        refine v_go rfl ?_
        refine v_bT rfl (by decide) ?_
        refine v_go rfl ?_
        refine v_ca rfl ?_
        refine c_isLane (fun _ => ?_) (fun z => absurd hy z)
        refine v_go rfl ?_
        refine v_bF rfl (by decide) ?_
        refine v_go rfl ?_
        refine v_ca rfl ?_
        refine c_isWithin (n := 20) (by omega) (fun _ => ?_) (fun z => absurd hw z)
        refine v_go rfl ?_
        refine v_bF rfl (by decide) ?_
        refine v_go rfl ?_
        refine v_ca rfl ?_
        refine c_isAsked (fun _ => ?_) (fun z => absurd hv z)
        refine v_go rfl ?_
        exact v_bT rfl (by decide) hk
      have ypre : ∀ (D : m_D) (Q : m_K), m_V L 7 Q t_X5_day 1 (73, [some (.ref 34), some (.int x), some (.int y), some (.int u), some (.int w), some (.int v), none, none, none], [], D) → m_call L 8 131 [.ref 34, .int x, .int y, .int u, .int w, .int v] D Q := by
        intro D Q hk
        refine v_in (tb' := t_X5_day) (rk' := 1) rfl rfl rfl ?_
        refine v_go rfl ?_
        refine v_ca rfl ?_
        refine c_noSheet (fun _ => ?_) (fun z => absurd hx z)
        refine v_go rfl ?_
        refine v_bT rfl rfl ?_
        refine v_go rfl ?_
        refine v_ca rfl ?_
        refine c_in (fun _ _ => ?_) (fun z => absurd ((in_iff (n := 3) (by decide)).mpr hy) z)
        refine v_go rfl ?_
        refine v_bF rfl (by decide) ?_
        refine v_go rfl ?_
        refine v_ca rfl ?_
        refine c_in (fun _ _ => ?_) (fun z => absurd ((in_iff (n := 21) (by decide)).mpr hw) z)
        refine v_go rfl ?_
        refine v_bF rfl (by decide) ?_
        refine v_go rfl ?_
        refine v_ca rfl ?_
        refine c_in (fun _ _ => ?_) (fun z => ?_)
        · refine v_go rfl ?_
          exact v_bT rfl (by decide) hk
        · refine v_go rfl ?_
          refine v_bF rfl (by decide) ?_
          refine v_go rfl ?_
          refine v_ca rfl ?_
          refine c_in (fun _ _ => ?_) (fun z2 => absurd ((askM v).mpr hv) (fun q => q.elim z z2))
          refine v_go rfl ?_
          exact v_bT rfl (by decide) hk
      by_cases hn : S.1 = 0
      · have hk : S.2.1 = 0 := hnk.mp hn
        refine ⟨-3, (S, rd, sh, tr, 0), okZ_fl hz, fun D Q hI h => ?_, fun D Q hI h => ?_⟩
        · have hI0 := InvC_fl 0 hI
          have h := h (m_up D 0 9 0) ((frC.refl _).up (by omega)) hI0
          refine xpre D Q ?_
          refine v_go rfl ?_
          refine v_ca rfl ?_
          refine c_hasShower hI0.1.1 hn6 (fun z => absurd hn z) (fun _ => ?_)
          refine v_go rfl ?_
          refine v_bF rfl (by decide) ?_
          exact v_go rfl (v_rt rfl trivial h)
        · have r2 : D 34 2 = nI 0 := by rw [← hk]; exact hI.1.2.1
          refine ypre D Q ?_
          refine v_go rfl ?_
          rw [r2]
          refine v_bF rfl (fun z => z rfl) ?_
          refine v_go rfl ?_
          refine v_ca rfl ?_
          refine c_refused ?_
          exact v_rt rfl trivial (h _ ((frM.refl _).up (by omega)) (InvM_fl 0 hI))
      · have hk0 : S.2.1 ≠ 0 := fun z => hn (hnk.mpr z)
        obtain ⟨k, hk, rfl⟩ := vp_in_of hx (by omega)
        obtain ⟨m, hm, rfl⟩ := vp_in_of hw (by omega)
        have hck : (nI k).toNatClampNeg = k := nI_clamp (by omega)
        have hk4 : k = 0 ∨ k = 1 ∨ k = 2 ∨ k = 3 := by omega
        have hkk := hk
        have h60 : ∀ la n f, sh k = some (la, n, f) → n ≤ 60 := fun la n f e => (hz.2.2.2.2 k hk la n f e).2
        have e2m : 2 * nI m = nI (2 * m) := by rw [show (2 : Int32) = nI 2 from rfl, pk_mul]
        have t2m : (nI (2 * m)).toInt = ((2 * m : Nat) : Int) := nI_toInt (by omega)
        have xpre2 : ∀ (D : m_D) (Q : m_K), InvC (S, rd, sh, tr, fl) D → m_V L 7 Q t_X4_day 1 (58, [some (.ref 0), some (.int (nI k)), some (.int y), some (.int u), some (.int (nI m)), some (.int v), none, none], [.ref (24 + 2 * k)], m_up D 0 9 0) → m_call L 8 38 [.ref 0, .int (nI k), .int y, .int u, .int (nI m), .int v] D Q := by
          intro D Q hI hk2
          have hI0 := InvC_fl 0 hI
          refine xpre D Q ?_
          refine v_go rfl ?_
          refine v_ca rfl ?_
          refine c_hasShower hI0.1.1 hn6 (fun _ => ?_) (fun z => absurd z hn)
          refine v_go rfl ?_
          refine v_bT rfl (by decide) ?_
          refine v_go rfl ?_
          refine v_al rfl hx (fun q hq => ?_)
          have hq := al_q hk hq
          subst hq
          exact hk2
        have ypre2 : ∀ (D : m_D) (Q : m_K), InvM (S, rd, sh, tr, fl) D → m_call L 7 106 [.ref 34, .int (nI k), .int y, .int u, .long (2 * (nI m).toInt64)] D (fun r D' => m_V L 7 Q t_X5_day 1 (m_beh 101 [some (.ref 34), some (.int (nI k)), some (.int y), some (.int u), some (.int (nI m)), some (.int v), none, none, none] [] r D')) → m_call L 8 131 [.ref 34, .int (nI k), .int y, .int u, .int (nI m), .int v] D Q := by
          intro D Q hI hk2
          have r2 : D 34 2 = nI S.2.1 := hI.1.2.1
          refine ypre D Q ?_
          refine v_go rfl ?_
          rw [r2]
          refine v_bT rfl (nI_ne0 (by omega) (by omega)) ?_
          refine v_go rfl ?_
          exact v_ca rfl hk2
        have hwb : ((2 : Int64) * (nI m).toInt64).toInt < 2 ^ 40 ∧ -2 ^ 40 < ((2 : Int64) * (nI m).toInt64).toInt := by
          rw [w64 m hm]
          omega
        cases hs : sh k with
        | none =>
          refine ⟨-10 - 1, (S, rd, sh, tr, 1), okZ_fl hz, fun D Q hI h => ?_, fun D Q hI h => ?_⟩
          · have hsk : shC k (m_up D 0 9 0) (sh k) := (InvC_fl 0 hI).2.2.2.1 k hk
            have h := h (m_up D 0 9 1) ((frC.refl _).up (by omega)) (InvC_fl _ hI)
            refine xpre2 D Q hI ?_
            rcases hk4 with rfl | rfl | rfl | rfl
            all_goals
              refine v_go rfl ?_
              refine v_ca rfl ?_
              refine c_taking hkk hsk (fun _ => ?_) (fun a b c e => by rw [hs] at e; cases e) (fun a b c e => by rw [hs] at e; cases e)
              refine v_go rfl ?_
              refine v_bF rfl (by decide) ?_
              refine v_go rfl ?_
              refine v_ca rfl ?_
              refine c_faulted ?_
              rw [m_up_ii]
              exact v_rt rfl trivial h
          · have hsk : shM k D (sh k) := hI.2.2.2.1 k hk
            refine ypre2 D Q hI ?_
            refine c_cellsBarred hk hsk h60 hwb (fun _ => ?_) (fun a b c e => by rw [hs] at e; cases e) (fun a b c e => by rw [hs] at e; cases e) (fun a b c e => by rw [hs] at e; cases e) (fun a b c e => by rw [hs] at e; cases e)
            refine v_go rfl ?_
            refine v_bF rfl (by decide) ?_
            exact v_go rfl (v_rt rfl trivial (h _ ((frM.refl _).up (by omega)) (InvM_fl _ hI)))
        | some s0 =>
          obtain ⟨la, n, f⟩ := s0
          have hn60 := h60 la n f hs
          by_cases hlw : nI la = y
          · by_cases hr : rng u ((2 * m : Nat) : Int) n
            · obtain ⟨a, b, rfl, hb, hab⟩ := rng_of (i := u) (w := nI (2 * m)) (n := n) (by rw [t2m]; exact hr) (by omega)
              have hb : 2 * m = b := (nI_eq (by omega) (by omega)).mp hb
              subst hb
              have xpre3 : ∀ (D : m_D) (Q : m_K), InvC (S, rd, sh, tr, fl) D → m_call L 7 39 [.ref 0, .ref (24 + 2 * k), .int (nI a), .int (nI m)] (m_up D 0 9 0) (fun r D' => m_V L 7 Q t_X4_day 1 (m_beh 108 [some (.ref 0), some (.int (nI k)), some (.int y), some (.int (nI a)), some (.int (nI m)), some (.int v), some (.ref (24 + 2 * k)), some (.int 0)] [] r D')) → m_call L 8 38 [.ref 0, .int (nI k), .int y, .int (nI a), .int (nI m), .int v] D Q := by
                intro D Q hI hk2
                have hsk : shC k (m_up D 0 9 0) (sh k) := (InvC_fl 0 hI).2.2.2.1 k hk
                have hsk2 := hsk
                rw [hs] at hsk2
                obtain ⟨k1, k2, k3, k4⟩ := hsk2
                refine xpre2 D Q hI ?_
                rcases hk4 with rfl | rfl | rfl | rfl
                all_goals
                  refine v_go rfl ?_
                  refine v_ca rfl ?_
                  refine c_taking hkk hsk (fun e => by rw [hs] at e; cases e) (fun a b c e _ => ?_) (fun a b c e z => by rw [hs] at e; cases e; exact absurd hlw z)
                  refine v_go rfl ?_
                  refine v_bT rfl rfl ?_
                  refine v_go rfl ?_
                  rw [e2m]
                  refine v_ca rfl ?_
                  refine c_hasCells hkk k3 hn60 (fun _ => ?_) (fun z => absurd (by rw [t2m]; exact hr) z)
                  refine v_go rfl ?_
                  refine v_bT rfl (by decide) ?_
                  refine v_go rfl ?_
                  exact v_ca rfl hk2
              have ylp : ∀ (D : m_D) (Q : m_K) (g : Nat → Int32), (∀ i, i < n → D 58 (60 * k + i) = g i) → (allA g a m → m_V L 7 Q t_X5_day 1 (174, [some (.ref 34), some (.int (nI k)), some (.int y), some (.int (nI a)), some (.int (nI m)), some (.int v), some (.int 0), some (.int (nI (60 * k + a))), some (.int (nI m))], [], D)) → (¬ allA g a m → Q (some (.int (-2))) (m_up D 34 0 0)) → m_V L 7 Q t_X5_day 1 (111, [some (.ref 34), some (.int (nI k)), some (.int y), some (.int (nI a)), some (.int (nI m)), some (.int v), some (.int 0), none, none], [], D) := by
                intro D Q g hg hy1 hy0
                have e60 : (60 : Int32) * nI k + nI a = nI (60 * k + a) := by rw [show (60 : Int32) = nI 60 from rfl, pk_mul, nI_add]
                have key : ∀ (q p : Nat), p + q = m → allA g a p → m_V L 7 Q t_X5_day 1 (122, [some (.ref 34), some (.int (nI k)), some (.int y), some (.int (nI a)), some (.int (nI m)), some (.int v), some (.int 0), some (.int (nI (60 * k + a))), some (.int (nI p))], [], D) := by
                  intro q
                  induction q with
                  | zero =>
                    intro p hq hp
                    have hq : p = m := by omega
                    subst hq
                    refine v_go rfl ?_
                    refine v_bT rfl (Int32.le_refl _) ?_
                    exact hy1 hp
                  | succ q ih =>
                    intro p hq hp
                    have i1 : vp_in (nI (60 * k + a + 2 * p)) 240 := vp_in_nI (by omega) (by omega)
                    have c1 : (nI (60 * k + a + 2 * p)).toNatClampNeg = 60 * k + a + 2 * p := nI_clamp (by omega)
                    have i2 : vp_in (nI (60 * k + a + 2 * p + 1)) 240 := vp_in_nI (by omega) (by omega)
                    have c2 : (nI (60 * k + a + 2 * p + 1)).toNatClampNeg = 60 * k + a + 2 * p + 1 := nI_clamp (by omega)
                    have s1 : D 58 (60 * k + a + 2 * p) = g (a + 2 * p) := by
                      rw [Nat.add_assoc]
                      exact hg _ (by omega)
                    have s2 : D 58 (60 * k + a + 2 * p + 1) = g (a + 2 * p + 1) := by
                      rw [Nat.add_assoc, Nat.add_assoc, ← Nat.add_assoc a]
                      exact hg _ (by omega)
                    refine v_go rfl ?_
                    refine v_bF rfl (nI_ge (by omega) (by omega)) ?_
                    refine v_go rfl ?_
                    rw [ix2]
                    refine v_sd rfl i1 ?_
                    rw [c1, s1]
                    refine v_go rfl ?_
                    rw [ix3]
                    refine v_sd rfl i2 ?_
                    rw [c2, s2]
                    refine v_ca rfl ?_
                    refine c_isAsTold (fun z => ?_) (fun z => ?_)
                    · have ih := ih (p + 1) (by omega) (fun p' hp' => by
                        by_cases e : p' = p
                        · rw [e]
                          exact z
                        · exact hp p' (by omega))
                      rw [← nI_1] at ih
                      refine v_go rfl ?_
                      refine v_bT rfl (by decide) ?_
                      exact v_run 2 rfl ih
                    · refine v_go rfl ?_
                      refine v_bF rfl (by decide) ?_
                      refine v_go rfl ?_
                      refine v_ca rfl ?_
                      refine c_refused ?_
                      exact v_rt rfl trivial (hy0 (fun y => z (y p (by omega))))
                have k0 := key m 0 (by omega) (fun p hp => absurd hp (by omega))
                rw [← e60] at k0
                exact v_run 8 rfl k0
              have ypre3 : ∀ (D : m_D) (Q : m_K), InvM (S, rd, sh, tr, fl) D → m_V L 7 Q t_X5_day 1 (111, [some (.ref 34), some (.int (nI k)), some (.int y), some (.int (nI a)), some (.int (nI m)), some (.int v), some (.int 0), none, none], [], D) → m_call L 8 131 [.ref 34, .int (nI k), .int y, .int (nI a), .int (nI m), .int v] D Q := by
                intro D Q hI hk2
                have hsk : shM k D (sh k) := hI.2.2.2.1 k hk
                refine ypre2 D Q hI ?_
                refine c_cellsBarred hk hsk h60 hwb (fun e => by rw [hs] at e; cases e) (fun a b c e z => by rw [hs] at e; cases e; exact absurd hlw z) (fun a b c e _ z => absurd z (by rw [w64 m hm]; omega)) (fun a b c e _ _ z => ?_) (fun a b c e _ _ => ?_)
                · rw [hs] at e
                  cases e
                  exact absurd (by rw [w64 m hm]; exact hr) z
                · refine v_go rfl ?_
                  exact v_bT rfl (by decide) hk2
              by_cases hA : allA f a m
              · have hd : okS (p_dy S (cA f a) m).1 ∧ sameS (p_dy S (cA f a) m).1 S ∧ ∀ p, (p_dy S (cA f a) m).2 = some p → p < m := by
                  have g : ∀ q, q ≤ m → okS (p_dy S (cA f a) q).1 ∧ sameS (p_dy S (cA f a) q).1 S ∧ ∀ p, (p_dy S (cA f a) q).2 = some p → p < q := by
                    intro q
                    induction q with
                    | zero =>
                      intro _
                      exact ⟨hoS, ⟨rfl, rfl, fun _ _ _ => rfl⟩, fun p e => by cases e⟩
                    | succ q ih =>
                      intro hq
                      obtain ⟨i1, i2, i3⟩ := ih (by omega)
                      cases e : p_dy S (cA f a) q with
                      | mk S1 wr =>
                        rw [e] at i1 i2 i3
                        cases wr with
                        | some p0 =>
                          rw [p_dy_w e 1]
                          exact ⟨i1, i2, fun p z => by have := i3 p z; omega⟩
                        | none =>
                          obtain ⟨-, -, hok⟩ := act_ok (hA q (by omega))
                          cases e2 : p_do S1 (cA f a q).1 (cA f a q).2 with
                          | none =>
                            rw [p_dy_n e e2]
                            exact ⟨i1, i2, fun p z => by cases z; omega⟩
                          | some S2 =>
                            rw [p_dy_s e e2]
                            have h3 := p_do_ok i1 hok e2
                            exact ⟨h3.1, h3.2.trans i2, fun p z => by cases z⟩
                  exact g m (Nat.le_refl _)
                obtain ⟨hd1, hd2, hd3⟩ := hd
                refine ⟨sp_day (p_dy S (cA f a) m).1 (p_dy S (cA f a) m).2 v, (S, rd, sh, tr, 0), okZ_fl hz, fun D Q hI h => ?_, fun D Q hI h => ?_⟩
                · have hI0 := InvC_fl 0 hI
                  have hsk : shC k (m_up D 0 9 0) (sh k) := hI0.2.2.2.1 k hk
                  rw [hs] at hsk
                  obtain ⟨k1, k2, k3, k4⟩ := hsk
                  refine xpre3 D Q hI ?_
                  refine c_areActs hk hn60 hab k4 (fun _ => ?_) (fun z => absurd hA z)
                  refine v_go rfl ?_
                  refine v_bT rfl (by decide) ?_
                  refine v_go rfl ?_
                  refine v_ca rfl ?_
                  refine c_firstWrong hk hn60 hab k4 hI0.1 hoS hA (fun D2 hf2 hr2 => ?_)
                  refine v_go rfl ?_
                  refine v_ca rfl ?_
                  refine c_answerOfDay hd1 (fun p e => by have := hd3 p e; omega) hr2 hv (fun D3 hf3 => ?_)
                  have hfa := (fT hf2).trans (fF hf3)
                  exact v_rt rfl trivial (h D3 (((frC.refl D).up (by omega)).trans (frC_FT hfa)) (InvC_FT hI0 hfa))
                · have hsk : shM k D (sh k) := hI.2.2.2.1 k hk
                  rw [hs] at hsk
                  obtain ⟨k1, k2, k3⟩ := hsk
                  refine ypre3 D Q hI ?_
                  refine ylp D Q f k3 (fun _ => ?_) (fun z => absurd hA z)
                  refine v_go rfl ?_
                  refine v_ca rfl ?_
                  refine c_keeps hI.1 hoS (fun D1 hf1 hh1 => ?_)
                  have hr1 := relM_keep hf1 (by decide) (by decide) hI.1
                  have e58 : D1 58 = D 58 := hf1.1 58 (by simp) (by decide)
                  refine v_go rfl ?_
                  refine v_ca rfl ?_
                  refine c_dayOf (by omega) (by omega) (fun i hi => by rw [e58]; exact k3 i (by omega)) hr1 hoS hA hv (fun D2 hf2 hr2 => ?_)
                  have hh2 : relH D2 S := relH_keep hh1 hf2 (by decide)
                  refine v_go rfl ?_
                  refine v_ca rfl ?_
                  refine c_brings hr2 hoS hd2.1 hd2.2.1 hd2.2.2 hh2 (fun D3 hf3 hr3 => ?_)
                  have hfa : m_fM z_MT [22] D D3 := ((mtK hf1).trans (hf2.sub (by simp) (by simp))).trans (mtV hf3)
                  refine v_go rfl ?_
                  refine v_ca rfl ?_
                  refine c_refused ?_
                  exact v_rt rfl trivial (h _ ((frM_MT hfa).up (by omega)) (InvM_fl 0 (InvM_MT hI hr3 hfa)))
              · refine ⟨-2, (S, rd, sh, tr, 0), okZ_fl hz, fun D Q hI h => ?_, fun D Q hI h => ?_⟩
                · have hI0 := InvC_fl 0 hI
                  have hsk : shC k (m_up D 0 9 0) (sh k) := hI0.2.2.2.1 k hk
                  rw [hs] at hsk
                  obtain ⟨k1, k2, k3, k4⟩ := hsk
                  refine xpre3 D Q hI ?_
                  refine c_areActs hk hn60 hab k4 (fun z => absurd z hA) (fun _ => ?_)
                  refine v_go rfl ?_
                  refine v_bF rfl (by decide) ?_
                  exact v_go rfl (v_rt rfl trivial (h _ ((frC.refl D).up (by omega)) hI0))
                · have hsk : shM k D (sh k) := hI.2.2.2.1 k hk
                  rw [hs] at hsk
                  obtain ⟨k1, k2, k3⟩ := hsk
                  refine ypre3 D Q hI ?_
                  exact ylp D Q f k3 (fun z => absurd z hA) (fun _ => h _ ((frM.refl _).up (by omega)) (InvM_fl 0 hI))
            · refine ⟨-10 - 3, (S, rd, sh, tr, 3), okZ_fl hz, fun D Q hI h => ?_, fun D Q hI h => ?_⟩
              · have hsk : shC k (m_up D 0 9 0) (sh k) := (InvC_fl 0 hI).2.2.2.1 k hk
                have hsk2 := hsk
                rw [hs] at hsk2
                obtain ⟨k1, k2, k3, k4⟩ := hsk2
                have h := h (m_up D 0 9 3) ((frC.refl _).up (by omega)) (InvC_fl _ hI)
                refine xpre2 D Q hI ?_
                rcases hk4 with rfl | rfl | rfl | rfl
                all_goals
                  refine v_go rfl ?_
                  refine v_ca rfl ?_
                  refine c_taking hkk hsk (fun e => by rw [hs] at e; cases e) (fun a b c e _ => ?_) (fun a b c e z => by rw [hs] at e; cases e; exact absurd hlw z)
                  refine v_go rfl ?_
                  refine v_bT rfl rfl ?_
                  refine v_go rfl ?_
                  rw [e2m]
                  refine v_ca rfl ?_
                  refine c_hasCells hkk k3 hn60 (fun z => absurd (by rw [t2m] at z; exact z) hr) (fun _ => ?_)
                  refine v_go rfl ?_
                  refine v_bF rfl (by decide) ?_
                  refine v_go rfl ?_
                  refine v_ca rfl ?_
                  refine c_faulted ?_
                  rw [m_up_ii]
                  exact v_rt rfl trivial h
              · have hsk : shM k D (sh k) := hI.2.2.2.1 k hk
                refine ypre2 D Q hI ?_
                refine c_cellsBarred hk hsk h60 hwb (fun e => by rw [hs] at e; cases e) (fun a b c e z => by rw [hs] at e; cases e; exact absurd hlw z) (fun a b c e _ z => absurd z (by rw [w64 m hm]; omega)) (fun a b c e _ _ z => ?_) (fun a b c e _ z => ?_)
                · refine v_go rfl ?_
                  refine v_bF rfl (by decide) ?_
                  exact v_go rfl (v_rt rfl trivial (h _ ((frM.refl _).up (by omega)) (InvM_fl _ hI)))
                · rw [hs] at e
                  cases e
                  rw [w64 m hm] at z
                  exact absurd z hr
          · refine ⟨-10 - 2, (S, rd, sh, tr, 2), okZ_fl hz, fun D Q hI h => ?_, fun D Q hI h => ?_⟩
            · have hsk : shC k (m_up D 0 9 0) (sh k) := (InvC_fl 0 hI).2.2.2.1 k hk
              have h := h (m_up D 0 9 2) ((frC.refl _).up (by omega)) (InvC_fl _ hI)
              refine xpre2 D Q hI ?_
              rcases hk4 with rfl | rfl | rfl | rfl
              all_goals
                refine v_go rfl ?_
                refine v_ca rfl ?_
                refine c_taking hkk hsk (fun e => by rw [hs] at e; cases e) (fun a b c e z => by rw [hs] at e; cases e; exact absurd z hlw) (fun a b c e z => ?_)
                refine v_go rfl ?_
                refine v_bF rfl (by decide) ?_
                refine v_go rfl ?_
                refine v_ca rfl ?_
                refine c_faulted ?_
                rw [m_up_ii]
                exact v_rt rfl trivial h
            · have hsk : shM k D (sh k) := hI.2.2.2.1 k hk
              refine ypre2 D Q hI ?_
              refine c_cellsBarred hk hsk h60 hwb (fun e => by rw [hs] at e; cases e) (fun a b c e z => ?_) (fun a b c e z => by rw [hs] at e; cases e; exact absurd z hlw) (fun a b c e z => by rw [hs] at e; cases e; exact absurd z hlw) (fun a b c e z => by rw [hs] at e; cases e; exact absurd z hlw)
              refine v_go rfl ?_
              refine v_bF rfl (by decide) ?_
              exact v_go rfl (v_rt rfl trivial (h _ ((frM.refl _).up (by omega)) (InvM_fl _ hI)))
    · refine ⟨-2, (S, rd, sh, tr, 0), okZ_fl hz, fun D Q hI h => ?_, fun D Q hI h => ?_⟩
      · have h := h (m_up D 0 9 0) ((frC.refl _).up (by omega)) (InvC_fl 0 hI)
        refine v_in (tb' := t_X4_day) (rk' := 1) rfl rfl rfl ?_
        refine v_go rfl ?_
        refine v_ca rfl ?_
        refine c_isSheet (fun _ => ?_) (fun z => absurd hx z)
        refine v_go rfl ?_
        refine v_bT rfl (by decide) ?_
        refine v_go rfl ?_
        refine v_ca rfl ?_
        refine c_isLane (fun z1 => ?_) (fun _ => ?_)
        · refine v_go rfl ?_
          refine v_bF rfl (by decide) ?_
          refine v_go rfl ?_
          refine v_ca rfl ?_
          refine c_isWithin (n := 20) (by omega) (fun z2 => ?_) (fun _ => ?_)
          · refine v_go rfl ?_
            refine v_bF rfl (by decide) ?_
            refine v_go rfl ?_
            refine v_ca rfl ?_
            refine c_isAsked (fun z3 => absurd ⟨z1, z2, z3⟩ h2) (fun _ => ?_)
            refine v_go rfl ?_
            refine v_bF rfl (by decide) ?_
            exact v_go rfl (v_rt rfl trivial h)
          · refine v_go rfl ?_
            refine v_bT rfl rfl ?_
            exact v_go rfl (v_rt rfl trivial h)
        · refine v_go rfl ?_
          refine v_bT rfl rfl ?_
          exact v_go rfl (v_rt rfl trivial h)
      · have h := h _ ((frM.refl _).up (by omega)) (InvM_fl 0 hI)
        have tail : m_V L 7 Q t_X5_day 1 (66, [some (.ref 34), some (.int x), some (.int y), some (.int u), some (.int w), some (.int v), none, none, none], [], D) := by
          refine v_go rfl ?_
          refine v_ca rfl ?_
          refine c_refused ?_
          exact v_rt rfl trivial h
        refine v_in (tb' := t_X5_day) (rk' := 1) rfl rfl rfl ?_
        refine v_go rfl ?_
        refine v_ca rfl ?_
        refine c_noSheet (fun _ => ?_) (fun z => absurd hx z)
        refine v_go rfl ?_
        refine v_bT rfl rfl ?_
        refine v_go rfl ?_
        refine v_ca rfl ?_
        refine c_in (fun p1 p2 => ?_) (fun _ => ?_)
        · have z1 := (in_iff (n := 3) (by decide)).mp ⟨p1, p2⟩
          refine v_go rfl ?_
          refine v_bF rfl (by decide) ?_
          refine v_go rfl ?_
          refine v_ca rfl ?_
          refine c_in (fun p1 p2 => ?_) (fun _ => ?_)
          · have z2 := (in_iff (n := 21) (by decide)).mp ⟨p1, p2⟩
            refine v_go rfl ?_
            refine v_bF rfl (by decide) ?_
            refine v_go rfl ?_
            refine v_ca rfl ?_
            refine c_in (fun p1 p2 => absurd ⟨z1, z2, (askM v).mp (Or.inl ⟨p1, p2⟩)⟩ h2) (fun _ => ?_)
            refine v_go rfl ?_
            refine v_bF rfl (by decide) ?_
            refine v_go rfl ?_
            refine v_ca rfl ?_
            refine c_in (fun p1 p2 => absurd ⟨z1, z2, (askM v).mp (Or.inr ⟨p1, p2⟩)⟩ h2) (fun _ => ?_)
            refine v_go rfl ?_
            refine v_bF rfl (by decide) ?_
            exact tail
          · refine v_go rfl ?_
            refine v_bT rfl rfl ?_
            exact tail
        · refine v_go rfl ?_
          refine v_bT rfl rfl ?_
          exact tail
  · refine ⟨-1, (S, rd, sh, tr, 0), okZ_fl hz, fun D Q hI h => ?_, fun D Q hI h => ?_⟩
    · refine v_in (tb' := t_X4_day) (rk' := 1) rfl rfl rfl ?_
      refine v_go rfl ?_
      refine v_ca rfl ?_
      refine c_isSheet (fun z => absurd z hx) (fun _ => ?_)
      refine v_go rfl ?_
      refine v_bF rfl (by decide) ?_
      exact v_go rfl (v_rt rfl trivial (h _ ((frC.refl _).up (by omega)) (InvC_fl 0 hI)))
    · refine v_in (tb' := t_X5_day) (rk' := 1) rfl rfl rfl ?_
      refine v_go rfl ?_
      refine v_ca rfl ?_
      refine c_noSheet (fun z => absurd z hx) (fun _ => ?_)
      refine v_go rfl ?_
      refine v_bF rfl (by decide) ?_
      refine v_go rfl ?_
      refine v_ca rfl ?_
      refine c_refused ?_
      exact v_rt rfl trivial (h _ ((frM.refl _).up (by omega)) (InvM_fl 0 hI))
end
section
/-! ===== texts: the class's reader ===== -/
def atb (g : Nat → Int32) (n p : Nat) (c : Int32) : Bool := decide (p < n ∧ g p = c)
def dgb (g : Nat → Int32) (n p lo hi : Nat) : Bool := decide (p < n ∧ (48 : Int) + lo ≤ (g p).toInt ∧ (g p).toInt ≤ 48 + hi)
def kdb (g : Nat → Int32) (n p : Nat) : Bool := decide (p < n ∧ (g p = 112 ∨ g p = 109 ∨ g p = 99))
def dgv (c : Int32) : Nat := (c.toInt - 48).toNat
def kdv (c : Int32) : Nat := if c = 112 then 0 else if c = 109 then 1 else 2
theorem dgv_eq {c : Int32} {lo hi : Nat} (h1 : (48 : Int) + lo ≤ c.toInt) (h2 : c.toInt ≤ 48 + hi) : c = nI (48 + dgv c) ∧ lo ≤ dgv c ∧ dgv c ≤ hi := by
  have h3 := Int32.toInt_lt c
  unfold dgv
  refine ⟨?_, by omega, by omega⟩
  apply Int32.toInt_inj.mp
  rw [nI_toInt (by omega)]
  omega
def rdr (g : Nat → Int32) (n p : Nat) (D : m_D) : Prop := D 21 1 = nI n ∧ D 21 2 = nI p ∧ ∀ j, j < n → D 22 j = g j
theorem rdr_up {g : Nat → Int32} {n p q : Nat} {D : m_D} (h : rdr g n p D) : rdr g n q (m_up D 21 2 (nI q)) := ⟨h.1, m_up_s, h.2.2⟩
theorem c_isAt {L d n p : Nat} {g : Nat → Int32} {c : Int32} {D : m_D} {Q : m_K} (hr : rdr g n p D) (hn : n ≤ 60) (hp : p ≤ n) (h1 : atb g n p c = true → Q (some (.int 1)) D) (h0 : atb g n p c = false → Q (some (.int 0)) D) : m_call L (d + 1) 26 [.ref 21, .int c] D Q := by
  obtain ⟨r1, r2, r3⟩ := hr
  refine v_in (tb' := t_X3_isAt) (rk' := 2) rfl rfl rfl ?_
  refine v_go rfl ?_
  rw [r1, r2]
  by_cases hpn : p < n
  · refine v_bF rfl (nI_ge hpn (by omega)) ?_
    refine v_go rfl ?_
    rw [r2]
    refine v_sd rfl (vp_in_nI (by omega) (by omega)) ?_
    rw [nI_clamp (by omega), r3 p hpn]
    refine v_go rfl ?_
    by_cases e : g p = c
    · refine v_bF rfl (fun z => z e) ?_
      exact v_go rfl (v_rt rfl (Or.inr rfl) (h1 (decide_eq_true ⟨hpn, e⟩)))
    · refine v_bT rfl e ?_
      exact v_go rfl (v_rt rfl (Or.inl rfl) (h0 (decide_eq_false (fun z => e z.2))))
  · refine v_bT rfl (nI_le (by omega) (by omega)) ?_
    exact v_go rfl (v_rt rfl (Or.inl rfl) (h0 (decide_eq_false (fun z => hpn z.1))))
theorem c_takes {L d n p : Nat} {g : Nat → Int32} {c : Int32} {D : m_D} {Q : m_K} (hr : rdr g n p D) (hn : n ≤ 60) (hp : p ≤ n) (h1 : atb g n p c = true → ∀ D', m_fr [21] D D' → rdr g n (p + 1) D' → Q (some (.int 1)) D') (h0 : atb g n p c = false → ∀ D', m_fr [21] D D' → rdr g n p D' → Q (some (.int 0)) D') : m_call L (d + 2) 27 [.ref 21, .int c] D Q := by
  have hf0 : m_fr [21] D D := m_fr.refl _ _
  refine v_in (tb' := t_X3_takes) (rk' := 2) rfl rfl rfl ?_
  refine v_go rfl ?_
  refine v_ca rfl ?_
  refine c_isAt hr hn hp (fun z => ?_) (fun z => ?_)
  · refine v_go rfl ?_
    rw [hr.2.1]
    refine v_bF rfl (by decide) ?_
    refine v_go rfl ?_
    rw [nI_1]
    exact v_rt rfl (Or.inr rfl) (h1 z _ (hf0.up (by simp)) (rdr_up hr))
  · refine v_go rfl ?_
    rw [hr.2.1]
    refine v_bT rfl rfl ?_
    refine v_go rfl ?_
    rw [Int32.add_zero]
    exact v_rt rfl (Or.inl rfl) (h0 z _ (hf0.up (by simp)) (rdr_up hr))
theorem c_digit {L d n p lo hi : Nat} {g : Nat → Int32} {D : m_D} {Q : m_K} (hr : rdr g n p D) (hn : n ≤ 60) (hp : p ≤ n) (hlo : lo ≤ 9) (hhi : hi ≤ 9) (h1 : dgb g n p lo hi = true → ∀ D', m_fr [21] D D' → rdr g n (p + 1) D' → Q (some (.int (nI (dgv (g p))))) D') (h0 : dgb g n p lo hi = false → Q (some (.int (-9))) D) : m_call L (d + 1) 29 [.ref 21, .int (nI lo), .int (nI hi)] D Q := by
  have hf0 : m_fr [21] D D := m_fr.refl _ _
  have e1 : (48 : Int32) + nI lo = nI (48 + lo) := nI_add 48 lo
  have e2 : (48 : Int32) + nI hi = nI (48 + hi) := nI_add 48 hi
  have r1 := hr.1
  have r2 := hr.2.1
  have r3 := hr.2.2
  refine v_in (tb' := t_X3_takenDigit) (rk' := 1) rfl rfl rfl ?_
  refine v_go rfl ?_
  rw [r1, r2]
  by_cases hpn : p < n
  · refine v_bF rfl (nI_ge hpn (by omega)) ?_
    refine v_go rfl ?_
    rw [r2]
    refine v_sd rfl (vp_in_nI (by omega) (by omega)) ?_
    rw [nI_clamp (by omega), r3 p hpn]
    refine v_go rfl ?_
    rw [e1]
    have l1 : g p < nI (48 + lo) ↔ (g p).toInt < 48 + lo := by
      rw [Int32.lt_iff_toInt_lt, nI_toInt (by omega)]
      omega
    have l2 : g p ≤ nI (48 + hi) ↔ (g p).toInt ≤ 48 + hi := by
      rw [Int32.le_iff_toInt_le, nI_toInt (by omega)]
      omega
    refine v_br rfl (fun z => ?_) (fun z => ?_)
    · have z := l1.mp z
      exact v_go rfl (v_rt rfl trivial (h0 (decide_eq_false (fun y => by omega))))
    · have z : ¬ (g p).toInt < 48 + lo := fun y => z (l1.mpr y)
      refine v_go rfl ?_
      rw [r2]
      refine v_sd rfl (vp_in_nI (by omega) (by omega)) ?_
      rw [nI_clamp (by omega), r3 p hpn]
      refine v_go rfl ?_
      rw [e2]
      refine v_br rfl (fun z2 => ?_) (fun z2 => ?_)
      · have z2 := l2.mp z2
        obtain ⟨ev, hv1, hv2⟩ := dgv_eq (c := g p) (lo := lo) (hi := hi) (by omega) z2
        have es : g p - 48 = nI (dgv (g p)) := by
          rw [ev, show (48 : Int32) = nI 48 from rfl, pk_sub (by omega), ← ev, show 48 + dgv (g p) - 48 = dgv (g p) by omega]
        refine v_go rfl ?_
        rw [r2, nI_1]
        have hp21 : m_up D 21 2 (nI (p + 1)) 21 2 = nI (p + 1) := m_up_s
        rw [hp21, nI_pred]
        refine v_sd rfl (vp_in_nI (by omega) (by omega)) ?_
        rw [nI_clamp (by omega)]
        have e22 : m_up D 21 2 (nI (p + 1)) 22 p = g p := r3 p hpn
        rw [e22]
        refine v_go rfl ?_
        rw [es]
        exact v_rt rfl trivial (h1 (decide_eq_true ⟨hpn, by omega, z2⟩) _ (hf0.up (by simp)) (rdr_up hr))
      · have z2 : ¬ (g p).toInt ≤ 48 + hi := fun y => z2 (l2.mpr y)
        exact v_go rfl (v_rt rfl trivial (h0 (decide_eq_false (fun y => z2 y.2.2))))
  · refine v_bT rfl (nI_le (by omega) (by omega)) ?_
    exact v_go rfl (v_rt rfl trivial (h0 (decide_eq_false (fun z => hpn z.1))))
theorem atb_t {g : Nat → Int32} {n p : Nat} {c : Int32} (h : atb g n p c = true) : p < n ∧ g p = c := of_decide_eq_true h
theorem atb_f {g : Nat → Int32} {n p : Nat} {c : Int32} (h : atb g n p c = false) : ¬ (p < n ∧ g p = c) := of_decide_eq_false h
theorem dgb_t {g : Nat → Int32} {n p lo hi : Nat} (h : dgb g n p lo hi = true) : p < n ∧ lo ≤ dgv (g p) ∧ dgv (g p) ≤ hi := by
  have h := of_decide_eq_true h
  obtain ⟨-, q1, q2⟩ := dgv_eq h.2.1 h.2.2
  exact ⟨h.1, q1, q2⟩
theorem c_kind {L d n p : Nat} {g : Nat → Int32} {D : m_D} {Q : m_K} (hr : rdr g n p D) (hn : n ≤ 60) (hp : p ≤ n) (h1 : kdb g n p = true → ∀ D', m_fr [21] D D' → rdr g n (p + 1) D' → Q (some (.int (nI (kdv (g p))))) D') (h0 : kdb g n p = false → ∀ D', m_fr [21] D D' → rdr g n p D' → Q (some (.int (-9))) D') : m_call L (d + 3) 28 [.ref 21] D Q := by
  refine v_in (tb' := t_X3_takenKind) (rk' := 1) rfl rfl rfl ?_
  refine v_go rfl ?_
  refine v_ca rfl ?_
  refine c_takes hr hn hp (fun z D1 hf1 hr1 => ?_) (fun z D1 hf1 hr1 => ?_)
  · obtain ⟨hpn, e⟩ := atb_t z
    have h1 := h1 (decide_eq_true ⟨hpn, Or.inl e⟩) D1 hf1 hr1
    unfold kdv at h1
    rw [if_pos e] at h1
    refine v_go rfl ?_
    refine v_bF rfl (by decide) ?_
    exact v_go rfl (v_rt rfl trivial h1)
  · have z := atb_f z
    refine v_go rfl ?_
    refine v_bT rfl rfl ?_
    refine v_go rfl ?_
    refine v_ca rfl ?_
    refine c_takes hr1 hn hp (fun z2 D2 hf2 hr2 => ?_) (fun z2 D2 hf2 hr2 => ?_)
    · obtain ⟨hpn, e⟩ := atb_t z2
      have h1 := h1 (decide_eq_true ⟨hpn, Or.inr (Or.inl e)⟩) D2 (hf1.trans hf2) hr2
      unfold kdv at h1
      rw [if_neg (fun y => z ⟨hpn, y⟩), if_pos e] at h1
      refine v_go rfl ?_
      refine v_bF rfl (by decide) ?_
      exact v_go rfl (v_rt rfl trivial h1)
    · have z2 := atb_f z2
      refine v_go rfl ?_
      refine v_bT rfl rfl ?_
      refine v_go rfl ?_
      refine v_ca rfl ?_
      refine c_takes hr2 hn hp (fun z3 D3 hf3 hr3 => ?_) (fun z3 D3 hf3 hr3 => ?_)
      · obtain ⟨hpn, e⟩ := atb_t z3
        have h1 := h1 (decide_eq_true ⟨hpn, Or.inr (Or.inr e)⟩) D3 ((hf1.trans hf2).trans hf3) hr3
        unfold kdv at h1
        rw [if_neg (fun y => z ⟨hpn, y⟩), if_neg (fun y => z2 ⟨hpn, y⟩)] at h1
        refine v_go rfl ?_
        refine v_bF rfl (by decide) ?_
        exact v_go rfl (v_rt rfl trivial h1)
      · have z3 := atb_f z3
        have h0 := h0 (decide_eq_false (fun y => y.2.elim (fun q => z ⟨y.1, q⟩) (fun q => q.elim (fun q => z2 ⟨y.1, q⟩) (fun q => z3 ⟨y.1, q⟩)))) D3 ((hf1.trans hf2).trans hf3) hr3
        refine v_go rfl ?_
        refine v_bT rfl rfl ?_
        exact v_go rfl (v_rt rfl trivial h0)
def f_line (g : Nat → Int32) (n p : Nat) : Option Nat := if atb g n p 44 = false then some p else if dgb g n (p + 1) 0 9 = false then some (p + 1) else if dgb g n (p + 2) 0 3 = false then some (p + 2) else none
def f_cri (g : Nat → Int32) (n k p : Nat) : Option Nat := if atb g n p 59 = false then some p else if kdb g n (p + 1) = false then some (p + 1) else if dgb g n (p + 2) 1 3 = false then some (p + 2) else if dgb g n (p + 3) 0 (k - 1) = false then some (p + 3) else none
theorem f_line_none {g : Nat → Int32} {n p : Nat} (h : f_line g n p = none) : atb g n p 44 = true ∧ dgb g n (p + 1) 0 9 = true ∧ dgb g n (p + 2) 0 3 = true := by
  unfold f_line at h
  cases e1 : atb g n p 44 with
  | false =>
    rw [e1, if_pos rfl] at h
    cases h
  | true =>
    cases e2 : dgb g n (p + 1) 0 9 with
    | false =>
      rw [e1, if_neg (by decide), e2, if_pos rfl] at h
      cases h
    | true =>
      cases e3 : dgb g n (p + 2) 0 3 with
      | false =>
        rw [e1, if_neg (by decide), e2, if_neg (by decide), e3, if_pos rfl] at h
        cases h
      | true => exact ⟨rfl, rfl, rfl⟩
theorem f_cri_none {g : Nat → Int32} {n k p : Nat} (h : f_cri g n k p = none) : atb g n p 59 = true ∧ kdb g n (p + 1) = true ∧ dgb g n (p + 2) 1 3 = true ∧ dgb g n (p + 3) 0 (k - 1) = true := by
  unfold f_cri at h
  cases e1 : atb g n p 59 with
  | false =>
    rw [e1, if_pos rfl] at h
    cases h
  | true =>
    cases e2 : kdb g n (p + 1) with
    | false =>
      rw [e1, if_neg (by decide), e2, if_pos rfl] at h
      cases h
    | true =>
      cases e3 : dgb g n (p + 2) 1 3 with
      | false =>
        rw [e1, if_neg (by decide), e2, if_neg (by decide), e3, if_pos rfl] at h
        cases h
      | true =>
        cases e4 : dgb g n (p + 3) 0 (k - 1) with
        | false =>
          rw [e1, if_neg (by decide), e2, if_neg (by decide), e3, if_neg (by decide), e4, if_pos rfl] at h
          cases h
        | true => exact ⟨rfl, rfl, rfl, rfl⟩
theorem c_takesLine {L d n p l : Nat} {g : Nat → Int32} {D : m_D} {Q : m_K} (hr : rdr g n p D) (hn : n ≤ 60) (hp : p ≤ n) (hl : l < 6) (h1 : f_line g n p = none → ∀ D', m_fr [21] D D' → rdr g n (p + 3) D' → Q (some (.int 1)) (m_up (m_up (m_up D' 9 l (nI (dgv (g (p + 1))))) 10 l (nI (dgv (g (p + 2))))) 8 0 (nI (l + 1)))) (h0 : ∀ q, f_line g n p = some q → q ≤ n → ∀ D', m_fr [21] D D' → rdr g n q D' → Q (some (.int 0)) D') : m_call L (d + 3) 24 [.ref 21, .ref 8, .int (nI l)] D Q := by
  have hin : vp_in (nI l) 6 := vp_in_nI (by omega) (by omega)
  have hcl : (nI l).toNatClampNeg = l := nI_clamp (by omega)
  unfold f_line at h1 h0
  refine v_in (tb' := t_X3_takesLine) (rk' := 2) rfl rfl rfl ?_
  refine v_go rfl ?_
  refine v_ca rfl ?_
  refine c_takes hr hn hp (fun z D1 hf1 hr1 => ?_) (fun z D1 hf1 hr1 => ?_)
  · have zp := (atb_t z).1
    rw [z, if_neg (by decide)] at h1 h0
    refine v_go rfl ?_
    refine v_bT rfl (by decide) ?_
    refine v_go rfl ?_
    refine v_ca rfl ?_
    refine c_digit (lo := 0) (hi := 9) hr1 hn (by omega) (by omega) (by omega) (fun z2 D2 hf2 hr2 => ?_) (fun z2 => ?_)
    · have zp2 := dgb_t z2
      rw [z2, if_neg (by decide)] at h1 h0
      refine v_go rfl ?_
      refine v_bT rfl (nI_m9 (by omega)) ?_
      refine v_go rfl ?_
      refine v_ca rfl ?_
      refine c_digit (lo := 0) (hi := 3) hr2 hn (by omega) (by omega) (by omega) (fun z3 D3 hf3 hr3 => ?_) (fun z3 => ?_)
      · have zp3 := dgb_t z3
        have z3' : dgb g n (p + 2) 0 3 = true := z3
        rw [z3', if_neg (by decide)] at h1
        have h1 := h1 rfl D3 ((hf1.trans hf2).trans hf3) hr3
        refine v_go rfl ?_
        refine v_bT rfl (nI_m9 (by omega)) ?_
        refine v_go rfl ?_
        refine v_sd rfl hin ?_
        rw [hcl]
        refine v_go rfl ?_
        refine v_sd rfl hin ?_
        rw [hcl]
        refine v_go rfl ?_
        rw [nI_1]
        exact v_rt rfl (Or.inr rfl) h1
      · have z3' : dgb g n (p + 2) 0 3 = false := z3
        rw [z3', if_pos rfl] at h0
        refine v_go rfl ?_
        refine v_bF rfl (fun z => z rfl) ?_
        exact v_go rfl (v_rt rfl (Or.inl rfl) (h0 _ rfl (by omega) D2 (hf1.trans hf2) hr2))
    · rw [z2, if_pos rfl] at h0
      refine v_go rfl ?_
      refine v_bF rfl (fun z => z rfl) ?_
      refine v_go rfl ?_
      refine v_bF rfl (fun z => z rfl) ?_
      exact v_go rfl (v_rt rfl (Or.inl rfl) (h0 _ rfl (by omega) D1 hf1 hr1))
  · rw [z, if_pos rfl] at h0
    refine v_go rfl ?_
    refine v_bF rfl (by decide) ?_
    exact v_go rfl (v_rt rfl (Or.inl rfl) (h0 _ rfl hp D1 hf1 hr1))
theorem kdv_le (c : Int32) : kdv c ≤ 2 := by
  unfold kdv
  split
  · omega
  · split <;> omega
theorem c_takesCrier {L d n p c k : Nat} {g : Nat → Int32} {D : m_D} {Q : m_K} (hr : rdr g n p D) (hn : n ≤ 60) (hp : p ≤ n) (hc : c < 3) (hk : 1 ≤ k ∧ k ≤ 6) (hk8 : D 8 0 = nI k) (h1 : f_cri g n k p = none → ∀ D', m_fr [21] D D' → rdr g n (p + 4) D' → Q (some (.int 1)) (m_up (m_up (m_up (m_up D' 11 c (nI (kdv (g (p + 1))))) 12 c (nI (dgv (g (p + 2))))) 13 c (nI (dgv (g (p + 3))))) 8 1 (nI (c + 1)))) (h0 : ∀ q, f_cri g n k p = some q → q ≤ n → ∀ D', m_fr [21] D D' → rdr g n q D' → Q (some (.int 0)) D') : m_call L (d + 4) 25 [.ref 21, .ref 8, .int (nI c)] D Q := by
  have hin : vp_in (nI c) 3 := vp_in_nI (by omega) (by omega)
  have hcl : (nI c).toNatClampNeg = c := nI_clamp (by omega)
  unfold f_cri at h1 h0
  refine v_in (tb' := t_X3_takesCrier) (rk' := 2) rfl rfl rfl ?_
  refine v_go rfl ?_
  refine v_ca rfl ?_
  refine c_takes hr hn hp (fun z D1 hf1 hr1 => ?_) (fun z D1 hf1 hr1 => ?_)
  · have zp := (atb_t z).1
    rw [z, if_neg (by decide)] at h1 h0
    refine v_go rfl ?_
    refine v_bT rfl (by decide) ?_
    refine v_go rfl ?_
    refine v_ca rfl ?_
    refine c_kind hr1 hn (by omega) (fun z2 D2 hf2 hr2 => ?_) (fun z2 D2 hf2 hr2 => ?_)
    · have zp2 := (of_decide_eq_true z2).1
      have kl := kdv_le (g (p + 1))
      rw [z2, if_neg (by decide)] at h1 h0
      refine v_go rfl ?_
      refine v_bT rfl (nI_m9 (by omega)) ?_
      refine v_go rfl ?_
      refine v_ca rfl ?_
      refine c_digit (lo := 1) (hi := 3) hr2 hn (by omega) (by omega) (by omega) (fun z3 D3 hf3 hr3 => ?_) (fun z3 => ?_)
      · have zp3 := dgb_t z3
        have z3' : dgb g n (p + 2) 1 3 = true := z3
        rw [z3', if_neg (by decide)] at h1 h0
        have hfc := (hf1.trans hf2).trans hf3
        have k8 : D3 8 0 = nI k := by rw [hfc 8 (by simp)]; exact hk8
        refine v_go rfl ?_
        refine v_bT rfl (nI_m9 (by omega)) ?_
        refine v_go rfl ?_
        rw [k8, nI_p (by omega)]
        refine v_ca rfl ?_
        refine c_digit (lo := 0) (hi := k - 1) hr3 hn (by omega) (by omega) (by omega) (fun z4 D4 hf4 hr4 => ?_) (fun z4 => ?_)
        · have zp4 := dgb_t z4
          have z4' : dgb g n (p + 3) 0 (k - 1) = true := z4
          rw [z4', if_neg (by decide)] at h1
          have h1 := h1 rfl D4 (hfc.trans hf4) hr4
          refine v_go rfl ?_
          refine v_bT rfl (nI_m9 (by omega)) ?_
          refine v_go rfl ?_
          refine v_sd rfl hin ?_
          rw [hcl]
          refine v_go rfl ?_
          refine v_sd rfl hin ?_
          rw [hcl]
          refine v_go rfl ?_
          refine v_sd rfl hin ?_
          rw [hcl]
          refine v_go rfl ?_
          rw [nI_1]
          exact v_rt rfl (Or.inr rfl) h1
        · have z4' : dgb g n (p + 3) 0 (k - 1) = false := z4
          rw [z4', if_pos rfl] at h0
          refine v_go rfl ?_
          refine v_bF rfl (fun z => z rfl) ?_
          exact v_go rfl (v_rt rfl (Or.inl rfl) (h0 _ rfl (by omega) D3 hfc hr3))
      · have z3' : dgb g n (p + 2) 1 3 = false := z3
        rw [z3', if_pos rfl] at h0
        refine v_go rfl ?_
        refine v_bF rfl (fun z => z rfl) ?_
        refine v_go rfl ?_
        refine v_bF rfl (fun z => z rfl) ?_
        exact v_go rfl (v_rt rfl (Or.inl rfl) (h0 _ rfl (by omega) D2 (hf1.trans hf2) hr2))
    · rw [z2, if_pos rfl] at h0
      refine v_go rfl ?_
      refine v_bF rfl (fun z => z rfl) ?_
      refine v_go rfl ?_
      refine v_bF rfl (fun z => z rfl) ?_
      refine v_go rfl ?_
      refine v_bF rfl (fun z => z rfl) ?_
      exact v_go rfl (v_rt rfl (Or.inl rfl) (h0 _ rfl (by omega) D2 (hf1.trans hf2) hr2))
  · rw [z, if_pos rfl] at h0
    refine v_go rfl ?_
    refine v_bF rfl (by decide) ?_
    exact v_go rfl (v_rt rfl (Or.inl rfl) (h0 _ rfl hp D1 hf1 hr1))
end
section
/-! ===== a whole text ===== -/
def q_lines (g : Nat → Int32) (n : Nat) : Nat → Nat → Nat ⊕ Nat
  | 0, l => .inr l
  | m + 1, l => if l = 0 ∨ atb g n (1 + 3 * l) 44 = true then (match f_line g n (1 + 3 * l) with
    | some p => .inl p
    | none => q_lines g n m (l + 1)) else .inr l
def q_cri (g : Nat → Int32) (n k : Nat) : Nat → Nat → Nat ⊕ Nat
  | 0, c => if 1 + 3 * k + 4 * c < n then .inl (1 + 3 * k + 4 * c) else .inr c
  | m + 1, c => if c = 0 ∨ 1 + 3 * k + 4 * c < n then (match f_cri g n k (1 + 3 * k + 4 * c) with
    | some p => .inl p
    | none => q_cri g n k m (c + 1)) else .inr c
def q_text (g : Nat → Int32) (n : Nat) : Nat ⊕ (Nat × Nat) := if atb g n 0 115 = false then .inl 0 else match q_lines g n 6 0 with
  | .inl p => .inl p
  | .inr k => match q_cri g n k 3 0 with
    | .inl p => .inl p
    | .inr c => .inr (k, c)
def qT (g : Nat → Int32) (k i j : Nat) : Nat := match i with
  | 0 => dgv (g (1 + 3 * j + 1))
  | 1 => dgv (g (1 + 3 * j + 2))
  | 2 => kdv (g (1 + 3 * k + 4 * j + 1))
  | 3 => dgv (g (1 + 3 * k + 4 * j + 2))
  | _ => dgv (g (1 + 3 * k + 4 * j + 3))
def qS (g : Nat → Int32) (k c : Nat) : SH := (k, c, qT g k, fun _ _ => false)
theorem ql_s {g : Nat → Int32} {n m l p : Nat} (h : l = 0 ∨ atb g n (1 + 3 * l) 44 = true) (hf : f_line g n (1 + 3 * l) = some p) : q_lines g n (m + 1) l = .inl p := by
  show ((if l = 0 ∨ atb g n (1 + 3 * l) 44 = true then (match f_line g n (1 + 3 * l) with
    | some p => Sum.inl p
    | none => q_lines g n m (l + 1)) else Sum.inr l) : Nat ⊕ Nat) = _
  rw [if_pos h, hf]
theorem ql_n {g : Nat → Int32} {n m l : Nat} (h : l = 0 ∨ atb g n (1 + 3 * l) 44 = true) (hf : f_line g n (1 + 3 * l) = none) : q_lines g n (m + 1) l = q_lines g n m (l + 1) := by
  show ((if l = 0 ∨ atb g n (1 + 3 * l) 44 = true then (match f_line g n (1 + 3 * l) with
    | some p => Sum.inl p
    | none => q_lines g n m (l + 1)) else Sum.inr l) : Nat ⊕ Nat) = _
  rw [if_pos h, hf]
theorem ql_o {g : Nat → Int32} {n m l : Nat} (h : ¬ (l = 0 ∨ atb g n (1 + 3 * l) 44 = true)) : q_lines g n (m + 1) l = .inr l := by
  show ((if l = 0 ∨ atb g n (1 + 3 * l) 44 = true then (match f_line g n (1 + 3 * l) with
    | some p => Sum.inl p
    | none => q_lines g n m (l + 1)) else Sum.inr l) : Nat ⊕ Nat) = _
  rw [if_neg h]
theorem qc_s {g : Nat → Int32} {n k m c p : Nat} (h : c = 0 ∨ 1 + 3 * k + 4 * c < n) (hf : f_cri g n k (1 + 3 * k + 4 * c) = some p) : q_cri g n k (m + 1) c = .inl p := by
  show ((if c = 0 ∨ 1 + 3 * k + 4 * c < n then (match f_cri g n k (1 + 3 * k + 4 * c) with
    | some p => Sum.inl p
    | none => q_cri g n k m (c + 1)) else Sum.inr c) : Nat ⊕ Nat) = _
  rw [if_pos h, hf]
theorem qc_n {g : Nat → Int32} {n k m c : Nat} (h : c = 0 ∨ 1 + 3 * k + 4 * c < n) (hf : f_cri g n k (1 + 3 * k + 4 * c) = none) : q_cri g n k (m + 1) c = q_cri g n k m (c + 1) := by
  show ((if c = 0 ∨ 1 + 3 * k + 4 * c < n then (match f_cri g n k (1 + 3 * k + 4 * c) with
    | some p => Sum.inl p
    | none => q_cri g n k m (c + 1)) else Sum.inr c) : Nat ⊕ Nat) = _
  rw [if_pos h, hf]
theorem qc_o {g : Nat → Int32} {n k m c : Nat} (h : ¬ (c = 0 ∨ 1 + 3 * k + 4 * c < n)) : q_cri g n k (m + 1) c = .inr c := by
  show ((if c = 0 ∨ 1 + 3 * k + 4 * c < n then (match f_cri g n k (1 + 3 * k + 4 * c) with
    | some p => Sum.inl p
    | none => q_cri g n k m (c + 1)) else Sum.inr c) : Nat ⊕ Nat) = _
  rw [if_neg h]
theorem qt_0 {g : Nat → Int32} {n : Nat} (h : atb g n 0 115 = false) : q_text g n = .inl 0 := by
  unfold q_text
  rw [if_pos h]
theorem qt_l {g : Nat → Int32} {n p : Nat} (h : atb g n 0 115 = true) (h2 : q_lines g n 6 0 = .inl p) : q_text g n = .inl p := by
  unfold q_text
  rw [h, if_neg (by decide), h2]
theorem qt_c {g : Nat → Int32} {n k p : Nat} (h : atb g n 0 115 = true) (h2 : q_lines g n 6 0 = .inr k) (h3 : q_cri g n k 3 0 = .inl p) : q_text g n = .inl p := by
  unfold q_text
  rw [h, if_neg (by decide), h2]
  dsimp only
  rw [h3]
theorem qt_k {g : Nat → Int32} {n k c : Nat} (h : atb g n 0 115 = true) (h2 : q_lines g n 6 0 = .inr k) (h3 : q_cri g n k 3 0 = .inr c) : q_text g n = .inr (k, c) := by
  unfold q_text
  rw [h, if_neg (by decide), h2]
  dsimp only
  rw [h3]
/-- where all that was asked is so -/
def goodL (g : Nat → Int32) (n l : Nat) : Prop := ∀ j, j < l → f_line g n (1 + 3 * j) = none
def goodC (g : Nat → Int32) (n k c : Nat) : Prop := ∀ j, j < c → f_cri g n k (1 + 3 * k + 4 * j) = none
theorem goodL_up {g : Nat → Int32} {n l : Nat} (h : goodL g n l) (h2 : f_line g n (1 + 3 * l) = none) : goodL g n (l + 1) := fun j hj => by
  by_cases e : j = l
  · rw [e]
    exact h2
  · exact h j (by omega)
theorem goodC_up {g : Nat → Int32} {n k c : Nat} (h : goodC g n k c) (h2 : f_cri g n k (1 + 3 * k + 4 * c) = none) : goodC g n k (c + 1) := fun j hj => by
  by_cases e : j = c
  · rw [e]
    exact h2
  · exact h j (by omega)
theorem goodL_le {g : Nat → Int32} {n l : Nat} (h : goodL g n l) (hl : l ≠ 0) : 1 + 3 * l ≤ n := by
  obtain ⟨-, -, h3⟩ := f_line_none (h (l - 1) (by omega))
  have := (dgb_t h3).1
  omega
theorem goodC_le {g : Nat → Int32} {n k c : Nat} (h : goodC g n k c) (hc : c ≠ 0) : 1 + 3 * k + 4 * c ≤ n := by
  obtain ⟨-, -, -, h4⟩ := f_cri_none (h (c - 1) (by omega))
  have := (dgb_t h4).1
  omega
theorem okS_q {g : Nat → Int32} {n k c : Nat} (hL : goodL g n k) (hC : goodC g n k c) (hk : 1 ≤ k ∧ k ≤ 6) (hc : c ≤ 3) : okS (qS g k c) := by
  refine ⟨hk.2, hc, fun l hl => ?_, fun j hj => ?_⟩
  · obtain ⟨-, h2, h3⟩ := f_line_none (hL l hl)
    have q2 := dgb_t h2
    have q3 := dgb_t h3
    have e0 : (qS g k c).2.2.1 0 l = dgv (g (1 + 3 * l + 1)) := rfl
    have e1 : (qS g k c).2.2.1 1 l = dgv (g (1 + 3 * l + 2)) := rfl
    rw [e0, e1]
    omega
  · obtain ⟨-, -, h3, h4⟩ := f_cri_none (hC j hj)
    have q3 := dgb_t h3
    have q4 := dgb_t h4
    have e2 : (qS g k c).2.2.1 2 j = kdv (g (1 + 3 * k + 4 * j + 1)) := rfl
    have e3 : (qS g k c).2.2.1 3 j = dgv (g (1 + 3 * k + 4 * j + 2)) := rfl
    have e4 : (qS g k c).2.2.1 4 j = dgv (g (1 + 3 * k + 4 * j + 3)) := rfl
    have e5 : (qS g k c).1 = k := rfl
    have := kdv_le (g (1 + 3 * k + 4 * j + 1))
    rw [e2, e3, e4, e5]
    omega
abbrev z_TR : List Nat := [8, 9, 10, 11, 12, 13, 14, 21, 22]
theorem tr21 {D D' : m_D} (hf : m_fr [21] D D') : m_fr z_TR D D' := hf.sub (by simp)
def rowL (g : Nat → Int32) (l : Nat) (D : m_D) : Prop := ∀ j, j < l → D 9 j = nI (dgv (g (1 + 3 * j + 1))) ∧ D 10 j = nI (dgv (g (1 + 3 * j + 2)))
def rowC (g : Nat → Int32) (k c : Nat) (D : m_D) : Prop := ∀ j, j < c → D 11 j = nI (kdv (g (1 + 3 * k + 4 * j + 1))) ∧ D 12 j = nI (dgv (g (1 + 3 * k + 4 * j + 2))) ∧ D 13 j = nI (dgv (g (1 + 3 * k + 4 * j + 3)))
theorem c_isText {L d n : Nat} {g : Nat → Int32} {D : m_D} {Q : m_K} (hr : rdr g n 0 D) (hn : n ≤ 60) (h80 : D 8 0 = nI 0) (h81 : D 8 1 = nI 0) (h14 : ∀ t, t < 6 → D 14 t = 0) (h0 : ∀ p D', q_text g n = .inl p → m_fr z_TR D D' → p ≤ 60 → D' 21 2 = nI p → Q (some (.int 0)) D') (h1 : ∀ k c D', q_text g n = .inr (k, c) → m_fr z_TR D D' → 1 ≤ k ∧ 1 ≤ c → okS (qS g k c) → relC 8 D' (qS g k c) → Q (some (.int 1)) D') : m_call L (d + 5) 23 [.ref 21, .ref 8] D Q := by
  have e14 : ∀ (D1 : m_D), D1 14 = D 14 → ∀ t, t < 6 → D1 14 t = nI 0 := fun D1 e t ht => by
    rw [e]
    exact h14 t ht
  have kc : atb g n 0 115 = true → ∀ (k : Nat), 1 ≤ k ∧ k ≤ 6 → goodL g n k → q_lines g n 6 0 = .inr k → ∀ (m c : Nat) (D1 : m_D), c + m = 3 → q_cri g n k 3 0 = q_cri g n k m c → goodC g n k c → m_fr z_TR D D1 → D1 14 = D 14 → D1 8 0 = nI k → D1 8 1 = nI c → rowL g k D1 → rowC g k c D1 → rdr g n (1 + 3 * k + 4 * c) D1 → m_V L (d + 4) Q t_X3_isText 2 (51, [some (.ref 21), some (.ref 8), some (.int (nI c))], [], D1) := by
    intro hat k hk hgL hql m
    have hkn := goodL_le hgL (by omega)
    have fin : ∀ (c : Nat) (D1 : m_D), c ≠ 0 → c ≤ 3 → q_cri g n k 3 0 = .inr c → ¬ 1 + 3 * k + 4 * c < n → goodC g n k c → m_fr z_TR D D1 → D1 14 = D 14 → D1 8 0 = nI k → D1 8 1 = nI c → rowL g k D1 → rowC g k c D1 → rdr g n (1 + 3 * k + 4 * c) D1 → m_V L (d + 4) Q t_X3_isText 2 (88, [some (.ref 21), some (.ref 8), some (.int (nI c))], [], D1) := by
      intro c D1 hc0 hc3 hqc hnl hgC hf h14' h80' h81' hrL hrC hr1
      have hcn := goodC_le hgC hc0
      refine v_go rfl ?_
      rw [hr1.1, hr1.2.1]
      refine v_bF rfl (fun z => z (congrArg nI (by omega))) ?_
      refine v_go rfl (v_rt rfl (Or.inr rfl) (h1 k c D1 (qt_k hat hql hqc) hf ⟨hk.1, by omega⟩ (okS_q hgL hgC hk hc3) ⟨h80', h81', hrL, hrC, fun t ht => ?_⟩))
      have e0 : b_sum (fun f => (qS g k c).2.2.2 f t) 4 = 0 := b_sum_0 4
      rw [e0]
      exact e14 D1 h14' t ht
    induction m with
    | zero =>
      intro c D1 hm hq hgC hf h14' h80' h81' hrL hrC hr1
      have hm : c = 3 := by omega
      subst hm
      refine v_go rfl ?_
      refine v_bT rfl (Int32.le_refl _) ?_
      by_cases hlt : 1 + 3 * k + 4 * 3 < n
      · have hq : q_cri g n k 3 0 = .inl (1 + 3 * k + 4 * 3) := by
          rw [hq]
          exact if_pos hlt
        refine v_go rfl ?_
        rw [hr1.1, hr1.2.1]
        refine v_bT rfl (fun z => ?_) ?_
        · have := (nI_eq (by omega) (by omega)).mp z
          omega
        · exact v_go rfl (v_rt rfl (Or.inl rfl) (h0 _ D1 (qt_c hat hql hq) hf (by omega) hr1.2.1))
      · have hq : q_cri g n k 3 0 = .inr 3 := by
          rw [hq]
          exact if_neg hlt
        exact fin 3 D1 (by omega) (by omega) hq hlt hgC hf h14' h80' h81' hrL hrC hr1
    | succ m ih =>
      intro c D1 hm hq hgC hf h14' h80' h81' hrL hrC hr1
      have step : (c = 0 ∨ 1 + 3 * k + 4 * c < n) → m_V L (d + 4) Q t_X3_isText 2 (71, [some (.ref 21), some (.ref 8), some (.int (nI c))], [], D1) := by
        intro hcond
        refine v_go rfl ?_
        refine v_ca rfl ?_
        refine c_takesCrier hr1 hn (by omega) (by omega) hk h80' (fun z D2 hf2 hr2 => ?_) (fun p z hpn D2 hf2 hr2 => ?_)
        · have e21 : ∀ a, a ≠ 21 → D2 a = D1 a := fun a ha => hf2 a (by simpa using ha)
          have ih := ih (c + 1) (m_up (m_up (m_up (m_up D2 11 c (nI (kdv (g (1 + 3 * k + 4 * c + 1))))) 12 c (nI (dgv (g (1 + 3 * k + 4 * c + 2))))) 13 c (nI (dgv (g (1 + 3 * k + 4 * c + 3))))) 8 1 (nI (c + 1))) (by omega) (by rw [hq]; exact qc_n hcond z) (goodC_up hgC z) (((((hf.trans (tr21 hf2)).up (by simp)).up (by simp)).up (by simp)).up (by simp)) ((e21 14 (by omega)).trans h14') ((congrFun (e21 8 (by omega)) 0).trans h80') m_up_s (fun j hj => by
            have e9 : D2 9 j = D1 9 j := congrFun (e21 9 (by omega)) j
            have e10 : D2 10 j = D1 10 j := congrFun (e21 10 (by omega)) j
            have h := hrL j hj
            exact ⟨e9.trans h.1, e10.trans h.2⟩) (fun j hj => by
            by_cases e : j = c
            · rw [e]
              exact ⟨(pk_us : upd (D2 11) c _ c = _), (pk_us : upd (D2 12) c _ c = _), (pk_us : upd (D2 13) c _ c = _)⟩
            · have h := hrC j (by omega)
              exact ⟨(m_up_n e).trans ((congrFun (e21 11 (by omega)) j).trans h.1), (m_up_n e).trans ((congrFun (e21 12 (by omega)) j).trans h.2.1), (m_up_n e).trans ((congrFun (e21 13 (by omega)) j).trans h.2.2)⟩) hr2
          refine v_go rfl ?_
          refine v_bT rfl (by decide) ?_
          refine v_run 2 rfl ?_
          rw [nI_1]
          exact ih
        · have hq : q_cri g n k 3 0 = .inl p := by rw [hq]; exact qc_s hcond z
          refine v_go rfl ?_
          refine v_bF rfl (by decide) ?_
          exact v_go rfl (v_rt rfl (Or.inl rfl) (h0 p D2 (qt_c hat hql hq) (hf.trans (tr21 hf2)) (by omega) hr2.2.1))
      refine v_go rfl ?_
      refine v_bF rfl (nI_ge (b := 3) (by omega) (by omega)) ?_
      refine v_go rfl ?_
      by_cases hc0 : c = 0
      · subst hc0
        refine v_bT rfl rfl ?_
        exact step (Or.inl rfl)
      · refine v_bF rfl (nI_ne0 (by omega) (by omega)) ?_
        have hcn := goodC_le hgC hc0
        refine v_go rfl ?_
        rw [hr1.1, hr1.2.1]
        by_cases hlt : 1 + 3 * k + 4 * c < n
        · refine v_bF rfl (nI_ge hlt (by omega)) ?_
          exact step (Or.inr hlt)
        · refine v_bT rfl (nI_le (by omega) (by omega)) ?_
          exact fin c D1 hc0 (by omega) (by rw [hq]; exact qc_o (fun z => z.elim hc0 hlt)) hlt hgC hf h14' h80' h81' hrL hrC hr1
  have kl : atb g n 0 115 = true → ∀ (m l : Nat) (D1 : m_D), l + m = 6 → q_lines g n 6 0 = q_lines g n m l → goodL g n l → m_fr z_TR D D1 → D1 14 = D 14 → D1 8 0 = nI l → D1 8 1 = nI 0 → rowL g l D1 → rdr g n (1 + 3 * l) D1 → 1 + 3 * l ≤ n → m_V L (d + 4) Q t_X3_isText 2 (13, [some (.ref 21), some (.ref 8), some (.int (nI l))], [], D1) := by
    intro hat m
    have out : ∀ (l : Nat) (D1 : m_D), l ≠ 0 → l ≤ 6 → q_lines g n 6 0 = .inr l → goodL g n l → m_fr z_TR D D1 → D1 14 = D 14 → D1 8 0 = nI l → D1 8 1 = nI 0 → rowL g l D1 → rdr g n (1 + 3 * l) D1 → m_V L (d + 4) Q t_X3_isText 2 (49, [some (.ref 21), some (.ref 8), some (.int (nI l))], [], D1) := by
      intro l D1 hl0 hl6 hq hgL hf h14' h80' h81' hrL hr1
      exact v_run 2 rfl (kc hat l ⟨by omega, hl6⟩ hgL hq 3 0 D1 (by omega) rfl (fun j hj => absurd hj (by omega)) hf h14' h80' h81' hrL (fun j hj => absurd hj (by omega)) hr1)
    induction m with
    | zero =>
      intro l D1 hm hq hgL hf h14' h80' h81' hrL hr1 hln
      have hm : l = 6 := by omega
      subst hm
      refine v_go rfl ?_
      refine v_bT rfl (Int32.le_refl _) ?_
      exact out 6 D1 (by omega) (by omega) hq hgL hf h14' h80' h81' hrL hr1
    | succ m ih =>
      intro l D1 hm hq hgL hf h14' h80' h81' hrL hr1 hln
      have step : (l = 0 ∨ atb g n (1 + 3 * l) 44 = true) → m_V L (d + 4) Q t_X3_isText 2 (32, [some (.ref 21), some (.ref 8), some (.int (nI l))], [], D1) := by
        intro hcond
        refine v_go rfl ?_
        refine v_ca rfl ?_
        refine c_takesLine hr1 hn hln (by omega) (fun z D2 hf2 hr2 => ?_) (fun p z hpn D2 hf2 hr2 => ?_)
        · have e21 : ∀ a, a ≠ 21 → D2 a = D1 a := fun a ha => hf2 a (by simpa using ha)
          have hgL2 := goodL_up hgL z
          have hln2 := goodL_le hgL2 (by omega)
          have ih := ih (l + 1) (m_up (m_up (m_up D2 9 l (nI (dgv (g (1 + 3 * l + 1))))) 10 l (nI (dgv (g (1 + 3 * l + 2))))) 8 0 (nI (l + 1))) (by omega) (by rw [hq]; exact ql_n hcond z) hgL2 ((((hf.trans (tr21 hf2)).up (by simp)).up (by simp)).up (by simp)) ((e21 14 (by omega)).trans h14') m_up_s ((congrFun (e21 8 (by omega)) 1).trans h81') (fun j hj => by
            by_cases e : j = l
            · rw [e]
              exact ⟨(pk_us : upd (D2 9) l _ l = _), (pk_us : upd (D2 10) l _ l = _)⟩
            · have h := hrL j (by omega)
              exact ⟨(m_up_n e).trans ((congrFun (e21 9 (by omega)) j).trans h.1), (m_up_n e).trans ((congrFun (e21 10 (by omega)) j).trans h.2)⟩) hr2 hln2
          refine v_go rfl ?_
          refine v_bT rfl (by decide) ?_
          refine v_run 2 rfl ?_
          rw [nI_1]
          exact ih
        · have hq : q_lines g n 6 0 = .inl p := by rw [hq]; exact ql_s hcond z
          refine v_go rfl ?_
          refine v_bF rfl (by decide) ?_
          exact v_go rfl (v_rt rfl (Or.inl rfl) (h0 p D2 (qt_l hat hq) (hf.trans (tr21 hf2)) (by omega) hr2.2.1))
      refine v_go rfl ?_
      refine v_bF rfl (nI_ge (b := 6) (by omega) (by omega)) ?_
      refine v_go rfl ?_
      by_cases hl0 : l = 0
      · subst hl0
        refine v_bT rfl rfl ?_
        exact step (Or.inl rfl)
      · refine v_bF rfl (nI_ne0 (by omega) (by omega)) ?_
        refine v_go rfl ?_
        refine v_ca rfl ?_
        refine c_isAt hr1 hn hln (fun z => ?_) (fun z => ?_)
        · refine v_go rfl ?_
          refine v_bF rfl (by decide) ?_
          exact step (Or.inr z)
        · refine v_go rfl ?_
          refine v_bT rfl rfl ?_
          exact out l D1 hl0 (by omega) (by rw [hq]; exact ql_o (fun y => y.elim hl0 (fun y => by rw [z] at y; cases y))) hgL hf h14' h80' h81' hrL hr1
  refine v_in (tb' := t_X3_isText) (rk' := 2) rfl rfl rfl ?_
  refine v_go rfl ?_
  refine v_ca rfl ?_
  refine c_takes hr hn (by omega) (fun z D1 hf1 hr1 => ?_) (fun z D1 hf1 hr1 => ?_)
  · have e21 : ∀ a, a ≠ 21 → D1 a = D a := fun a ha => hf1 a (by simpa using ha)
    have zp := (atb_t z).1
    refine v_go rfl ?_
    refine v_bT rfl (by decide) ?_
    exact v_run 2 rfl (kl z 6 0 D1 (by omega) rfl (fun j hj => absurd hj (by omega)) (tr21 hf1) (e21 14 (by omega)) ((congrFun (e21 8 (by omega)) 0).trans h80) ((congrFun (e21 8 (by omega)) 1).trans h81) (fun j hj => absurd hj (by omega)) hr1 (by omega))
  · refine v_go rfl ?_
    refine v_bF rfl (by decide) ?_
    exact v_go rfl (v_rt rfl (Or.inl rfl) (h0 0 D1 (qt_0 z) (tr21 hf1) (by omega) hr1.2.1))
theorem c_clear {L d : Nat} {D : m_D} {Q : m_K} (h : ∀ D', m_fr [8, 14] D D' → D' 8 0 = nI 0 → D' 8 1 = nI 0 → (∀ t, t < 6 → D' 14 t = 0) → Q none D') : m_call L (d + 2) 11 [.ref 8] D Q := by
  have hf0 : m_fr [8, 14] D D := m_fr.refl _ _
  refine v_in (tb' := t_X2_clear) (rk' := 0) rfl rfl rfl ?_
  refine v_go rfl ?_
  refine v_ca rfl ?_
  refine c_fill (a := 14) (n := 6) (by simp) (fun D2 hf2 hv => ?_)
  have e8 : D2 8 = m_up (m_up D 8 0 0) 8 1 0 8 := hf2 8 (by simp)
  exact v_rt rfl trivial (h D2 (((hf0.up (by simp)).up (by simp)).trans (hf2.sub (by simp))) (by rw [e8]; rfl) (by rw [e8]; rfl) hv)
theorem c_firstFault {L d k a m n : Nat} {f : Nat → Int32} {D : m_D} {Q : m_K} (hk : k < 4) (hn : n ≤ 60) (ham : a + m ≤ n) (hs : ∀ i, i < n → D (25 + 2 * k) i = f i) (h0 : ∀ p D', q_text (fun j => f (a + j)) m = .inl p → m_fr z_TR D D' → p ≤ 60 → Q (some (.int (nI p))) D') (h1 : ∀ k c D', q_text (fun j => f (a + j)) m = .inr (k, c) → m_fr z_TR D D' → 1 ≤ k ∧ 1 ≤ c → okS (qS (fun j => f (a + j)) k c) → relC 8 D' (qS (fun j => f (a + j)) k c) → Q (some (.int (-9))) D') : m_call L (d + 6) 22 [.ref 21, .ref (24 + 2 * k), .int (nI a), .int (nI m), .ref 8] D Q := by
  have hk4 : k = 0 ∨ k = 1 ∨ k = 2 ∨ k = 3 := by omega
  have hca : (nI a).toNatClampNeg = a := nI_clamp (by omega)
  have hcm : (nI m).toNatClampNeg = m := nI_clamp (by omega)
  have hc0 : (0 : Int32).toNatClampNeg = 0 := by decide
  have hcond : ¬ nI a < 0 ∧ ¬ (0 : Int32) < 0 ∧ ¬ nI m < 0 ∧ (nI a).toNatClampNeg + (nI m).toNatClampNeg ≤ 60 ∧ (0 : Int32).toNatClampNeg + (nI m).toNatClampNeg ≤ 60 := by
    rw [hca, hcm, hc0]
    exact ⟨nI_pos (by omega), by decide, nI_pos (by omega), by omega, by omega⟩
  rcases hk4 with rfl | rfl | rfl | rfl
  · refine v_in (tb' := t_X3_firstFault) (rk' := 1) rfl rfl rfl ?_
    refine v_go rfl ?_
    refine v_sd rfl hcond ?_
    rw [hca, hcm, hc0]
    refine v_go rfl ?_
    refine v_ca rfl ?_
    refine c_clear (fun D2 hf2 a0 a1 a14 => ?_)
    refine v_go rfl ?_
    refine v_ca rfl ?_
    have hfa : m_fr z_TR D D2 := fun q hq => by
      simp only [z_TR, List.mem_cons, List.not_mem_nil, or_false, not_or] at hq
      rw [hf2 q (by simp [hq.1, hq.2.2.2.2.2.2.1]), m_up_ne hq.2.2.2.2.2.2.2.1, m_up_ne hq.2.2.2.2.2.2.2.1, m_cp_ne hq.2.2.2.2.2.2.2.2]
    have hrd : rdr (fun j => f (a + j)) m 0 D2 := by
      refine ⟨?_, ?_, fun j hj => ?_⟩
      · rw [hf2 21 (by simp)]
        rfl
      · rw [hf2 21 (by simp)]
        rfl
      · rw [hf2 22 (by simp)]
        have e1 : va_cpy (D (25 + 2 * 0)) (D 22) a 0 m j = D (25 + 2 * 0) (a + (j - 0)) := pk_cpy_in (by omega) (by omega)
        exact e1.trans (hs _ (by omega))
    refine c_isText hrd (by omega) a0 a1 a14 (fun p D3 hq hf3 hp h21 => ?_) (fun k c D3 hq hf3 hkc ho hr => ?_)
    · refine v_go rfl ?_
      refine v_bT rfl rfl ?_
      refine v_go rfl ?_
      rw [h21]
      exact v_rt rfl trivial (h0 p D3 hq (hfa.trans hf3) hp)
    · refine v_go rfl ?_
      refine v_bF rfl (by decide) ?_
      exact v_go rfl (v_rt rfl trivial (h1 k c D3 hq (hfa.trans hf3) hkc ho hr))
  · refine v_in (tb' := t_X3_firstFault) (rk' := 1) rfl rfl rfl ?_
    refine v_go rfl ?_
    refine v_sd rfl hcond ?_
    rw [hca, hcm, hc0]
    refine v_go rfl ?_
    refine v_ca rfl ?_
    refine c_clear (fun D2 hf2 a0 a1 a14 => ?_)
    refine v_go rfl ?_
    refine v_ca rfl ?_
    have hfa : m_fr z_TR D D2 := fun q hq => by
      simp only [z_TR, List.mem_cons, List.not_mem_nil, or_false, not_or] at hq
      rw [hf2 q (by simp [hq.1, hq.2.2.2.2.2.2.1]), m_up_ne hq.2.2.2.2.2.2.2.1, m_up_ne hq.2.2.2.2.2.2.2.1, m_cp_ne hq.2.2.2.2.2.2.2.2]
    have hrd : rdr (fun j => f (a + j)) m 0 D2 := by
      refine ⟨?_, ?_, fun j hj => ?_⟩
      · rw [hf2 21 (by simp)]
        rfl
      · rw [hf2 21 (by simp)]
        rfl
      · rw [hf2 22 (by simp)]
        have e1 : va_cpy (D (25 + 2 * 1)) (D 22) a 0 m j = D (25 + 2 * 1) (a + (j - 0)) := pk_cpy_in (by omega) (by omega)
        exact e1.trans (hs _ (by omega))
    refine c_isText hrd (by omega) a0 a1 a14 (fun p D3 hq hf3 hp h21 => ?_) (fun k c D3 hq hf3 hkc ho hr => ?_)
    · refine v_go rfl ?_
      refine v_bT rfl rfl ?_
      refine v_go rfl ?_
      rw [h21]
      exact v_rt rfl trivial (h0 p D3 hq (hfa.trans hf3) hp)
    · refine v_go rfl ?_
      refine v_bF rfl (by decide) ?_
      exact v_go rfl (v_rt rfl trivial (h1 k c D3 hq (hfa.trans hf3) hkc ho hr))
  · refine v_in (tb' := t_X3_firstFault) (rk' := 1) rfl rfl rfl ?_
    refine v_go rfl ?_
    refine v_sd rfl hcond ?_
    rw [hca, hcm, hc0]
    refine v_go rfl ?_
    refine v_ca rfl ?_
    refine c_clear (fun D2 hf2 a0 a1 a14 => ?_)
    refine v_go rfl ?_
    refine v_ca rfl ?_
    have hfa : m_fr z_TR D D2 := fun q hq => by
      simp only [z_TR, List.mem_cons, List.not_mem_nil, or_false, not_or] at hq
      rw [hf2 q (by simp [hq.1, hq.2.2.2.2.2.2.1]), m_up_ne hq.2.2.2.2.2.2.2.1, m_up_ne hq.2.2.2.2.2.2.2.1, m_cp_ne hq.2.2.2.2.2.2.2.2]
    have hrd : rdr (fun j => f (a + j)) m 0 D2 := by
      refine ⟨?_, ?_, fun j hj => ?_⟩
      · rw [hf2 21 (by simp)]
        rfl
      · rw [hf2 21 (by simp)]
        rfl
      · rw [hf2 22 (by simp)]
        have e1 : va_cpy (D (25 + 2 * 2)) (D 22) a 0 m j = D (25 + 2 * 2) (a + (j - 0)) := pk_cpy_in (by omega) (by omega)
        exact e1.trans (hs _ (by omega))
    refine c_isText hrd (by omega) a0 a1 a14 (fun p D3 hq hf3 hp h21 => ?_) (fun k c D3 hq hf3 hkc ho hr => ?_)
    · refine v_go rfl ?_
      refine v_bT rfl rfl ?_
      refine v_go rfl ?_
      rw [h21]
      exact v_rt rfl trivial (h0 p D3 hq (hfa.trans hf3) hp)
    · refine v_go rfl ?_
      refine v_bF rfl (by decide) ?_
      exact v_go rfl (v_rt rfl trivial (h1 k c D3 hq (hfa.trans hf3) hkc ho hr))
  · refine v_in (tb' := t_X3_firstFault) (rk' := 1) rfl rfl rfl ?_
    refine v_go rfl ?_
    refine v_sd rfl hcond ?_
    rw [hca, hcm, hc0]
    refine v_go rfl ?_
    refine v_ca rfl ?_
    refine c_clear (fun D2 hf2 a0 a1 a14 => ?_)
    refine v_go rfl ?_
    refine v_ca rfl ?_
    have hfa : m_fr z_TR D D2 := fun q hq => by
      simp only [z_TR, List.mem_cons, List.not_mem_nil, or_false, not_or] at hq
      rw [hf2 q (by simp [hq.1, hq.2.2.2.2.2.2.1]), m_up_ne hq.2.2.2.2.2.2.2.1, m_up_ne hq.2.2.2.2.2.2.2.1, m_cp_ne hq.2.2.2.2.2.2.2.2]
    have hrd : rdr (fun j => f (a + j)) m 0 D2 := by
      refine ⟨?_, ?_, fun j hj => ?_⟩
      · rw [hf2 21 (by simp)]
        rfl
      · rw [hf2 21 (by simp)]
        rfl
      · rw [hf2 22 (by simp)]
        have e1 : va_cpy (D (25 + 2 * 3)) (D 22) a 0 m j = D (25 + 2 * 3) (a + (j - 0)) := pk_cpy_in (by omega) (by omega)
        exact e1.trans (hs _ (by omega))
    refine c_isText hrd (by omega) a0 a1 a14 (fun p D3 hq hf3 hp h21 => ?_) (fun k c D3 hq hf3 hkc ho hr => ?_)
    · refine v_go rfl ?_
      refine v_bT rfl rfl ?_
      refine v_go rfl ?_
      rw [h21]
      exact v_rt rfl trivial (h0 p D3 hq (hfa.trans hf3) hp)
    · refine v_go rfl ?_
      refine v_bF rfl (by decide) ?_
      exact v_go rfl (v_rt rfl trivial (h1 k c D3 hq (hfa.trans hf3) hkc ho hr))
end
