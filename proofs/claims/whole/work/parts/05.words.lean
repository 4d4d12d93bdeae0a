/-! ===== the words of the tables, by their places ===== -/
def m_TB : List Cond := lw_tbl.filter goodWord
theorem m_TB_of {w : Cond} (i : Nat) (h : lw_tbl[i]? = some w) (g : goodWord w = true) : w ∈ m_TB := List.mem_filter.mpr ⟨List.mem_of_getElem? h, g⟩
theorem m_batch {α : Type} (l : List α) (f : α → Cond) (ps : List Nat) (h : l.map (fun q => some (f q)) = ps.map (fun i => lw_tbl[i]?)) (g : l.all (fun q => goodWord (f q)) = true) : ∀ q ∈ l, f q ∈ m_TB := by
  intro q hq
  refine List.mem_filter.mpr ⟨?_, List.all_eq_true.mp g q hq⟩
  have h1 : some (f q) ∈ l.map (fun q => some (f q)) := List.mem_map.mpr ⟨q, hq, rfl⟩
  rw [h] at h1
  obtain ⟨i, -, hi⟩ := List.mem_map.mp h1
  exact List.mem_of_getElem? hi
def m_cw (M : m_Me) : Cond := .code M.2.1 M.2.2.1 M.2.2.2.1 M.2.2.2.2.1
def m_fw (q : Nat × Nat × Nat × Nat) : Cond := match m_cl[q.2.2.1]? with
  | some (_, T, _) => .fieldLink (m_cn q.1) q.2.1 (T q.2.2.2).1 (T q.2.2.2).2.1 (T q.2.2.2).2.2.1
  | none => .fieldLink "" 0 "" "" ""
set_option maxRecDepth 100000 in
theorem cw_X0_workOut : m_cw M_X0_workOut ∈ lw_tbl := List.mem_of_getElem? (i := 324) rfl
set_option maxRecDepth 100000 in
theorem cw_X0_findReader : m_cw M_X0_findReader ∈ lw_tbl := List.mem_of_getElem? (i := 329) rfl
set_option maxRecDepth 100000 in
theorem cw_X0_bringDown : m_cw M_X0_bringDown ∈ lw_tbl := List.mem_of_getElem? (i := 337) rfl
set_option maxRecDepth 100000 in
theorem cw_X0_linesBy : m_cw M_X0_linesBy ∈ lw_tbl := List.mem_of_getElem? (i := 364) rfl
set_option maxRecDepth 100000 in
theorem cw_X0_wetOfAll : m_cw M_X0_wetOfAll ∈ lw_tbl := List.mem_of_getElem? (i := 439) rfl
set_option maxRecDepth 100000 in
theorem cw_X0_wetFields : m_cw M_X0_wetFields ∈ lw_tbl := List.mem_of_getElem? (i := 467) rfl
set_option maxRecDepth 100000 in
theorem cw_X1_renew : m_cw M_X1_renew ∈ lw_tbl := List.mem_of_getElem? (i := 549) rfl
set_option maxRecDepth 100000 in
theorem cw_X1_faultOfTaking : m_cw M_X1_faultOfTaking ∈ lw_tbl := List.mem_of_getElem? (i := 257) rfl
set_option maxRecDepth 100000 in
theorem cw_X1_hasCell : m_cw M_X1_hasCell ∈ lw_tbl := List.mem_of_getElem? (i := 562) rfl
set_option maxRecDepth 100000 in
theorem cw_X1_hasCells : m_cw M_X1_hasCells ∈ lw_tbl := List.mem_of_getElem? (i := 265) rfl
set_option maxRecDepth 100000 in
theorem cw_X1_cut : m_cw M_X1_cut ∈ lw_tbl := List.mem_of_getElem? (i := 566) rfl
set_option maxRecDepth 100000 in
theorem cw_X2_clear : m_cw M_X2_clear ∈ lw_tbl := List.mem_of_getElem? (i := 276) rfl
set_option maxRecDepth 100000 in
theorem cw_X2_become : m_cw M_X2_become ∈ lw_tbl := List.mem_of_getElem? (i := 311) rfl
set_option maxRecDepth 100000 in
theorem cw_X2_hourOfReading : m_cw M_X2_hourOfReading ∈ lw_tbl := List.mem_of_getElem? (i := 333) rfl
set_option maxRecDepth 100000 in
theorem cw_X2_given : m_cw M_X2_given ∈ lw_tbl := List.mem_of_getElem? (i := 341) rfl
set_option maxRecDepth 100000 in
theorem cw_X2_coughs : m_cw M_X2_coughs ∈ lw_tbl := List.mem_of_getElem? (i := 352) rfl
set_option maxRecDepth 100000 in
theorem cw_X2_turnCough : m_cw M_X2_turnCough ∈ lw_tbl := List.mem_of_getElem? (i := 398) rfl
set_option maxRecDepth 100000 in
theorem cw_X2_coughCount : m_cw M_X2_coughCount ∈ lw_tbl := List.mem_of_getElem? (i := 619) rfl
set_option maxRecDepth 100000 in
theorem cw_X2_goesTo : m_cw M_X2_goesTo ∈ lw_tbl := List.mem_of_getElem? (i := 348) rfl
set_option maxRecDepth 100000 in
theorem cw_X2_beginnings : m_cw M_X2_beginnings ∈ lw_tbl := List.mem_of_getElem? (i := 447) rfl
set_option maxRecDepth 100000 in
theorem cw_X2_beginBy : m_cw M_X2_beginBy ∈ lw_tbl := List.mem_of_getElem? (i := 451) rfl
set_option maxRecDepth 100000 in
theorem cw_X2_does : m_cw M_X2_does ∈ lw_tbl := List.mem_of_getElem? (i := 430) rfl
set_option maxRecDepth 100000 in
theorem cw_X3_firstFault : m_cw M_X3_firstFault ∈ lw_tbl := List.mem_of_getElem? (i := 269) rfl
set_option maxRecDepth 100000 in
theorem cw_X3_isText : m_cw M_X3_isText ∈ lw_tbl := List.mem_of_getElem? (i := 283) rfl
set_option maxRecDepth 100000 in
theorem cw_X3_takesLine : m_cw M_X3_takesLine ∈ lw_tbl := List.mem_of_getElem? (i := 295) rfl
set_option maxRecDepth 100000 in
theorem cw_X3_takesCrier : m_cw M_X3_takesCrier ∈ lw_tbl := List.mem_of_getElem? (i := 303) rfl
set_option maxRecDepth 100000 in
theorem cw_X3_isAt : m_cw M_X3_isAt ∈ lw_tbl := List.mem_of_getElem? (i := 291) rfl
set_option maxRecDepth 100000 in
theorem cw_X3_takes : m_cw M_X3_takes ∈ lw_tbl := List.mem_of_getElem? (i := 287) rfl
set_option maxRecDepth 100000 in
theorem cw_X3_takenKind : m_cw M_X3_takenKind ∈ lw_tbl := List.mem_of_getElem? (i := 307) rfl
set_option maxRecDepth 100000 in
theorem cw_X3_takenDigit : m_cw M_X3_takenDigit ∈ lw_tbl := List.mem_of_getElem? (i := 299) rfl
set_option maxRecDepth 100000 in
theorem cw_X4_shower : m_cw M_X4_shower ∈ lw_tbl := List.mem_of_getElem? (i := 247) rfl
set_option maxRecDepth 100000 in
theorem cw_X4_ofLine : m_cw M_X4_ofLine ∈ lw_tbl := List.mem_of_getElem? (i := 316) rfl
set_option maxRecDepth 100000 in
theorem cw_X4_ofCrier : m_cw M_X4_ofCrier ∈ lw_tbl := List.mem_of_getElem? (i := 356) rfl
set_option maxRecDepth 100000 in
theorem cw_X4_print : m_cw M_X4_print ∈ lw_tbl := List.mem_of_getElem? (i := 369) rfl
set_option maxRecDepth 100000 in
theorem cw_X4_begin : m_cw M_X4_begin ∈ lw_tbl := List.mem_of_getElem? (i := 376) rfl
set_option maxRecDepth 100000 in
theorem cw_X4_cough : m_cw M_X4_cough ∈ lw_tbl := List.mem_of_getElem? (i := 380) rfl
set_option maxRecDepth 100000 in
theorem cw_X4_comes : m_cw M_X4_comes ∈ lw_tbl := List.mem_of_getElem? (i := 403) rfl
set_option maxRecDepth 100000 in
theorem cw_X4_wet : m_cw M_X4_wet ∈ lw_tbl := List.mem_of_getElem? (i := 407) rfl
set_option maxRecDepth 100000 in
theorem cw_X4_day : m_cw M_X4_day ∈ lw_tbl := List.mem_of_getElem? (i := 411) rfl
set_option maxRecDepth 100000 in
theorem cw_X4_areActs : m_cw M_X4_areActs ∈ lw_tbl := List.mem_of_getElem? (i := 418) rfl
set_option maxRecDepth 100000 in
theorem cw_X4_isAct : m_cw M_X4_isAct ∈ lw_tbl := List.mem_of_getElem? (i := 422) rfl
set_option maxRecDepth 100000 in
theorem cw_X4_firstWrong : m_cw M_X4_firstWrong ∈ lw_tbl := List.mem_of_getElem? (i := 426) rfl
set_option maxRecDepth 100000 in
theorem cw_X4_answerOfDay : m_cw M_X4_answerOfDay ∈ lw_tbl := List.mem_of_getElem? (i := 435) rfl
set_option maxRecDepth 100000 in
theorem cw_X4_isAskedOfDay : m_cw M_X4_isAskedOfDay ∈ lw_tbl := List.mem_of_getElem? (i := 414) rfl
set_option maxRecDepth 100000 in
theorem cw_X4_whole : m_cw M_X4_whole ∈ lw_tbl := List.mem_of_getElem? (i := 443) rfl
set_option maxRecDepth 100000 in
theorem cw_X4_most : m_cw M_X4_most ∈ lw_tbl := List.mem_of_getElem? (i := 459) rfl
set_option maxRecDepth 100000 in
theorem cw_X4_startIn : m_cw M_X4_startIn ∈ lw_tbl := List.mem_of_getElem? (i := 455) rfl
set_option maxRecDepth 100000 in
theorem cw_X4_strayed : m_cw M_X4_strayed ∈ lw_tbl := List.mem_of_getElem? (i := 463) rfl
set_option maxRecDepth 100000 in
theorem cw_X4_saved : m_cw M_X4_saved ∈ lw_tbl := List.mem_of_getElem? (i := 471) rfl
set_option maxRecDepth 100000 in
theorem cw_X4_savesBy : m_cw M_X4_savesBy ∈ lw_tbl := List.mem_of_getElem? (i := 481) rfl
set_option maxRecDepth 100000 in
theorem cw_X4_misprint : m_cw M_X4_misprint ∈ lw_tbl := List.mem_of_getElem? (i := 485) rfl
set_option maxRecDepth 100000 in
theorem cw_X4_isWetBy : m_cw M_X4_isWetBy ∈ lw_tbl := List.mem_of_getElem? (i := 489) rfl
set_option maxRecDepth 100000 in
theorem cw_X4_rests : m_cw M_X4_rests ∈ lw_tbl := List.mem_of_getElem? (i := 493) rfl
set_option maxRecDepth 100000 in
theorem cw_X4_painOfFirst : m_cw M_X4_painOfFirst ∈ lw_tbl := List.mem_of_getElem? (i := 497) rfl
set_option maxRecDepth 100000 in
theorem cw_X4_painOfSecond : m_cw M_X4_painOfSecond ∈ lw_tbl := List.mem_of_getElem? (i := 505) rfl
set_option maxRecDepth 100000 in
theorem cw_X4_coughInTrial : m_cw M_X4_coughInTrial ∈ lw_tbl := List.mem_of_getElem? (i := 501) rfl
set_option maxRecDepth 100000 in
theorem cw_X4_reading : m_cw M_X4_reading ∈ lw_tbl := List.mem_of_getElem? (i := 509) rfl
set_option maxRecDepth 100000 in
theorem cw_X4_back : m_cw M_X4_back ∈ lw_tbl := List.mem_of_getElem? (i := 513) rfl
set_option maxRecDepth 100000 in
theorem cw_X4_kinds : m_cw M_X4_kinds ∈ lw_tbl := List.mem_of_getElem? (i := 517) rfl
set_option maxRecDepth 100000 in
theorem cw_X4_paces : m_cw M_X4_paces ∈ lw_tbl := List.mem_of_getElem? (i := 529) rfl
set_option maxRecDepth 100000 in
theorem cw_X4_starts : m_cw M_X4_starts ∈ lw_tbl := List.mem_of_getElem? (i := 533) rfl
set_option maxRecDepth 100000 in
theorem cw_X4_fitting : m_cw M_X4_fitting ∈ lw_tbl := List.mem_of_getElem? (i := 521) rfl
set_option maxRecDepth 100000 in
theorem cw_X4_allReadingsAreSo : m_cw M_X4_allReadingsAreSo ∈ lw_tbl := List.mem_of_getElem? (i := 525) rfl
set_option maxRecDepth 100000 in
theorem cw_X4_odds : m_cw M_X4_odds ∈ lw_tbl := List.mem_of_getElem? (i := 537) rfl
set_option maxRecDepth 100000 in
theorem cw_X4_commonPart : m_cw M_X4_commonPart ∈ lw_tbl := List.mem_of_getElem? (i := 541) rfl
set_option maxRecDepth 100000 in
theorem cw_X4_sheet : m_cw M_X4_sheet ∈ lw_tbl := List.mem_of_getElem? (i := 545) rfl
set_option maxRecDepth 100000 in
theorem cw_X4_lose : m_cw M_X4_lose ∈ lw_tbl := List.mem_of_getElem? (i := 554) rfl
set_option maxRecDepth 100000 in
theorem cw_X4_put : m_cw M_X4_put ∈ lw_tbl := List.mem_of_getElem? (i := 558) rfl
set_option maxRecDepth 100000 in
theorem cw_X4_cell : m_cw M_X4_cell ∈ lw_tbl := List.mem_of_getElem? (i := 570) rfl
set_option maxRecDepth 100000 in
theorem cw_X4_copy : m_cw M_X4_copy ∈ lw_tbl := List.mem_of_getElem? (i := 574) rfl
set_option maxRecDepth 100000 in
theorem cw_X4_tell : m_cw M_X4_tell ∈ lw_tbl := List.mem_of_getElem? (i := 579) rfl
set_option maxRecDepth 100000 in
theorem cw_X4_plainTelling : m_cw M_X4_plainTelling ∈ lw_tbl := List.mem_of_getElem? (i := 583) rfl
set_option maxRecDepth 100000 in
theorem cw_X4_mumblingTelling : m_cw M_X4_mumblingTelling ∈ lw_tbl := List.mem_of_getElem? (i := 591) rfl
set_option maxRecDepth 100000 in
theorem cw_X4_chantingTelling : m_cw M_X4_chantingTelling ∈ lw_tbl := List.mem_of_getElem? (i := 595) rfl
set_option maxRecDepth 100000 in
theorem cw_X4_bribe : m_cw M_X4_bribe ∈ lw_tbl := List.mem_of_getElem? (i := 599) rfl
set_option maxRecDepth 100000 in
theorem cw_X4_leave : m_cw M_X4_leave ∈ lw_tbl := List.mem_of_getElem? (i := 587) rfl
set_option maxRecDepth 100000 in
theorem cw_X4_as : m_cw M_X4_as ∈ lw_tbl := List.mem_of_getElem? (i := 603) rfl
set_option maxRecDepth 100000 in
theorem cw_X4_trace : m_cw M_X4_trace ∈ lw_tbl := List.mem_of_getElem? (i := 607) rfl
set_option maxRecDepth 100000 in
theorem cw_X4_fault : m_cw M_X4_fault ∈ lw_tbl := List.mem_of_getElem? (i := 611) rfl
set_option maxRecDepth 100000 in
theorem cw_X4_many : m_cw M_X4_many ∈ lw_tbl := List.mem_of_getElem? (i := 615) rfl
set_option maxRecDepth 100000 in
theorem cw_X4_faulted : m_cw M_X4_faulted ∈ lw_tbl := List.mem_of_getElem? (i := 261) rfl
set_option maxRecDepth 100000 in
theorem cw_X4_refusalOf : m_cw M_X4_refusalOf ∈ lw_tbl := List.mem_of_getElem? (i := 387) rfl
set_option maxRecDepth 100000 in
theorem cw_X4_hasShower : m_cw M_X4_hasShower ∈ lw_tbl := List.mem_of_getElem? (i := 394) rfl
set_option maxRecDepth 100000 in
theorem cw_X4_isLine : m_cw M_X4_isLine ∈ lw_tbl := List.mem_of_getElem? (i := 320) rfl
set_option maxRecDepth 100000 in
theorem cw_X4_isCrier : m_cw M_X4_isCrier ∈ lw_tbl := List.mem_of_getElem? (i := 360) rfl
set_option maxRecDepth 100000 in
theorem cw_X4_isField : m_cw M_X4_isField ∈ lw_tbl := List.mem_of_getElem? (i := 390) rfl
set_option maxRecDepth 100000 in
theorem cw_X4_isHour : m_cw M_X4_isHour ∈ lw_tbl := List.mem_of_getElem? (i := 383) rfl
set_option maxRecDepth 100000 in
theorem cw_X4_isSheet : m_cw M_X4_isSheet ∈ lw_tbl := List.mem_of_getElem? (i := 250) rfl
set_option maxRecDepth 100000 in
theorem cw_X4_isLane : m_cw M_X4_isLane ∈ lw_tbl := List.mem_of_getElem? (i := 253) rfl
set_option maxRecDepth 100000 in
theorem cw_X4_isWithin : m_cw M_X4_isWithin ∈ lw_tbl := List.mem_of_getElem? (i := 372) rfl
set_option maxRecDepth 100000 in
theorem cw_X5_in : m_cw M_X5_in ∈ lw_tbl := List.mem_of_getElem? (i := 740) rfl
set_option maxRecDepth 100000 in
theorem cw_X5_lost : m_cw M_X5_lost ∈ lw_tbl := List.mem_of_getElem? (i := 979) rfl
set_option maxRecDepth 100000 in
theorem cw_X5_bits : m_cw M_X5_bits ∈ lw_tbl := List.mem_of_getElem? (i := 928) rfl
set_option maxRecDepth 100000 in
theorem cw_X5_share : m_cw M_X5_share ∈ lw_tbl := List.mem_of_getElem? (i := 983) rfl
set_option maxRecDepth 100000 in
theorem cw_X5_refused : m_cw M_X5_refused ∈ lw_tbl := List.mem_of_getElem? (i := 744) rfl
set_option maxRecDepth 100000 in
theorem cw_X5_failed : m_cw M_X5_failed ∈ lw_tbl := List.mem_of_getElem? (i := 753) rfl
set_option maxRecDepth 100000 in
theorem cw_X5_failedLong : m_cw M_X5_failedLong ∈ lw_tbl := List.mem_of_getElem? (i := 1007) rfl
set_option maxRecDepth 100000 in
theorem cw_X5_noLine : m_cw M_X5_noLine ∈ lw_tbl := List.mem_of_getElem? (i := 784) rfl
set_option maxRecDepth 100000 in
theorem cw_X5_noCrier : m_cw M_X5_noCrier ∈ lw_tbl := List.mem_of_getElem? (i := 816) rfl
set_option maxRecDepth 100000 in
theorem cw_X5_noField : m_cw M_X5_noField ∈ lw_tbl := List.mem_of_getElem? (i := 832) rfl
set_option maxRecDepth 100000 in
theorem cw_X5_isHour : m_cw M_X5_isHour ∈ lw_tbl := List.mem_of_getElem? (i := 835) rfl
set_option maxRecDepth 100000 in
theorem cw_X5_codeAt : m_cw M_X5_codeAt ∈ lw_tbl := List.mem_of_getElem? (i := 764) rfl
set_option maxRecDepth 100000 in
theorem cw_X5_figure : m_cw M_X5_figure ∈ lw_tbl := List.mem_of_getElem? (i := 772) rfl
set_option maxRecDepth 100000 in
theorem cw_X5_readsLine : m_cw M_X5_readsLine ∈ lw_tbl := List.mem_of_getElem? (i := 768) rfl
set_option maxRecDepth 100000 in
theorem cw_X5_readsCrier : m_cw M_X5_readsCrier ∈ lw_tbl := List.mem_of_getElem? (i := 776) rfl
set_option maxRecDepth 100000 in
theorem cw_X5_readsShower : m_cw M_X5_readsShower ∈ lw_tbl := List.mem_of_getElem? (i := 760) rfl
set_option maxRecDepth 100000 in
theorem cw_X5_cellsBarred : m_cw M_X5_cellsBarred ∈ lw_tbl := List.mem_of_getElem? (i := 749) rfl
set_option maxRecDepth 100000 in
theorem cw_X5_shower : m_cw M_X5_shower ∈ lw_tbl := List.mem_of_getElem? (i := 733) rfl
set_option maxRecDepth 100000 in
theorem cw_X5_hourBy : m_cw M_X5_hourBy ∈ lw_tbl := List.mem_of_getElem? (i := 796) rfl
set_option maxRecDepth 100000 in
theorem cw_X5_reads : m_cw M_X5_reads ∈ lw_tbl := List.mem_of_getElem? (i := 792) rfl
set_option maxRecDepth 100000 in
theorem cw_X5_given : m_cw M_X5_given ∈ lw_tbl := List.mem_of_getElem? (i := 800) rfl
set_option maxRecDepth 100000 in
theorem cw_X5_coughs : m_cw M_X5_coughs ∈ lw_tbl := List.mem_of_getElem? (i := 808) rfl
set_option maxRecDepth 100000 in
theorem cw_X5_falls : m_cw M_X5_falls ∈ lw_tbl := List.mem_of_getElem? (i := 804) rfl
set_option maxRecDepth 100000 in
theorem cw_X5_rains : m_cw M_X5_rains ∈ lw_tbl := List.mem_of_getElem? (i := 788) rfl
set_option maxRecDepth 100000 in
theorem cw_X5_wetOfAll : m_cw M_X5_wetOfAll ∈ lw_tbl := List.mem_of_getElem? (i := 882) rfl
set_option maxRecDepth 100000 in
theorem cw_X5_thoseThatHang : m_cw M_X5_thoseThatHang ∈ lw_tbl := List.mem_of_getElem? (i := 886) rfl
set_option maxRecDepth 100000 in
theorem cw_X5_thoseOfMud : m_cw M_X5_thoseOfMud ∈ lw_tbl := List.mem_of_getElem? (i := 890) rfl
set_option maxRecDepth 100000 in
theorem cw_X5_ofLine : m_cw M_X5_ofLine ∈ lw_tbl := List.mem_of_getElem? (i := 780) rfl
set_option maxRecDepth 100000 in
theorem cw_X5_ofCrier : m_cw M_X5_ofCrier ∈ lw_tbl := List.mem_of_getElem? (i := 812) rfl
set_option maxRecDepth 100000 in
theorem cw_X5_print : m_cw M_X5_print ∈ lw_tbl := List.mem_of_getElem? (i := 820) rfl
set_option maxRecDepth 100000 in
theorem cw_X5_begin : m_cw M_X5_begin ∈ lw_tbl := List.mem_of_getElem? (i := 825) rfl
set_option maxRecDepth 100000 in
theorem cw_X5_coughed : m_cw M_X5_coughed ∈ lw_tbl := List.mem_of_getElem? (i := 840) rfl
set_option maxRecDepth 100000 in
theorem cw_X5_cough : m_cw M_X5_cough ∈ lw_tbl := List.mem_of_getElem? (i := 829) rfl
set_option maxRecDepth 100000 in
theorem cw_X5_comes : m_cw M_X5_comes ∈ lw_tbl := List.mem_of_getElem? (i := 844) rfl
set_option maxRecDepth 100000 in
theorem cw_X5_wetNow : m_cw M_X5_wetNow ∈ lw_tbl := List.mem_of_getElem? (i := 852) rfl
set_option maxRecDepth 100000 in
theorem cw_X5_wet : m_cw M_X5_wet ∈ lw_tbl := List.mem_of_getElem? (i := 848) rfl
set_option maxRecDepth 100000 in
theorem cw_X5_isAsTold : m_cw M_X5_isAsTold ∈ lw_tbl := List.mem_of_getElem? (i := 863) rfl
set_option maxRecDepth 100000 in
theorem cw_X5_doesPair : m_cw M_X5_doesPair ∈ lw_tbl := List.mem_of_getElem? (i := 876) rfl
set_option maxRecDepth 100000 in
theorem cw_X5_dayOf : m_cw M_X5_dayOf ∈ lw_tbl := List.mem_of_getElem? (i := 872) rfl
set_option maxRecDepth 100000 in
theorem cw_X5_keeps : m_cw M_X5_keeps ∈ lw_tbl := List.mem_of_getElem? (i := 868) rfl
set_option maxRecDepth 100000 in
theorem cw_X5_bringsBack : m_cw M_X5_bringsBack ∈ lw_tbl := List.mem_of_getElem? (i := 894) rfl
set_option maxRecDepth 100000 in
theorem cw_X5_day : m_cw M_X5_day ∈ lw_tbl := List.mem_of_getElem? (i := 856) rfl
set_option maxRecDepth 100000 in
theorem cw_X5_beginnings : m_cw M_X5_beginnings ∈ lw_tbl := List.mem_of_getElem? (i := 903) rfl
set_option maxRecDepth 100000 in
theorem cw_X5_begins : m_cw M_X5_begins ∈ lw_tbl := List.mem_of_getElem? (i := 907) rfl
set_option maxRecDepth 100000 in
theorem cw_X5_startIn : m_cw M_X5_startIn ∈ lw_tbl := List.mem_of_getElem? (i := 911) rfl
set_option maxRecDepth 100000 in
theorem cw_X5_whole : m_cw M_X5_whole ∈ lw_tbl := List.mem_of_getElem? (i := 898) rfl
set_option maxRecDepth 100000 in
theorem cw_X5_most : m_cw M_X5_most ∈ lw_tbl := List.mem_of_getElem? (i := 915) rfl
set_option maxRecDepth 100000 in
theorem cw_X5_strayed : m_cw M_X5_strayed ∈ lw_tbl := List.mem_of_getElem? (i := 919) rfl
set_option maxRecDepth 100000 in
theorem cw_X5_areSaved : m_cw M_X5_areSaved ∈ lw_tbl := List.mem_of_getElem? (i := 932) rfl
set_option maxRecDepth 100000 in
theorem cw_X5_saved : m_cw M_X5_saved ∈ lw_tbl := List.mem_of_getElem? (i := 923) rfl
set_option maxRecDepth 100000 in
theorem cw_X5_apart : m_cw M_X5_apart ∈ lw_tbl := List.mem_of_getElem? (i := 939) rfl
set_option maxRecDepth 100000 in
theorem cw_X5_misprint : m_cw M_X5_misprint ∈ lw_tbl := List.mem_of_getElem? (i := 936) rfl
set_option maxRecDepth 100000 in
theorem cw_X5_pain : m_cw M_X5_pain ∈ lw_tbl := List.mem_of_getElem? (i := 947) rfl
set_option maxRecDepth 100000 in
theorem cw_X5_rests : m_cw M_X5_rests ∈ lw_tbl := List.mem_of_getElem? (i := 943) rfl
set_option maxRecDepth 100000 in
theorem cw_X5_reading : m_cw M_X5_reading ∈ lw_tbl := List.mem_of_getElem? (i := 951) rfl
set_option maxRecDepth 100000 in
theorem cw_X5_back : m_cw M_X5_back ∈ lw_tbl := List.mem_of_getElem? (i := 956) rfl
set_option maxRecDepth 100000 in
theorem cw_X5_areSo : m_cw M_X5_areSo ∈ lw_tbl := List.mem_of_getElem? (i := 964) rfl
set_option maxRecDepth 100000 in
theorem cw_X5_kinds : m_cw M_X5_kinds ∈ lw_tbl := List.mem_of_getElem? (i := 960) rfl
set_option maxRecDepth 100000 in
theorem cw_X5_paces : m_cw M_X5_paces ∈ lw_tbl := List.mem_of_getElem? (i := 968) rfl
set_option maxRecDepth 100000 in
theorem cw_X5_starts : m_cw M_X5_starts ∈ lw_tbl := List.mem_of_getElem? (i := 972) rfl
set_option maxRecDepth 100000 in
theorem cw_X5_odds : m_cw M_X5_odds ∈ lw_tbl := List.mem_of_getElem? (i := 976) rfl
set_option maxRecDepth 100000 in
theorem cw_X5_noSheet : m_cw M_X5_noSheet ∈ lw_tbl := List.mem_of_getElem? (i := 736) rfl
set_option maxRecDepth 100000 in
theorem cw_X5_sheet : m_cw M_X5_sheet ∈ lw_tbl := List.mem_of_getElem? (i := 987) rfl
set_option maxRecDepth 100000 in
theorem cw_X5_lose : m_cw M_X5_lose ∈ lw_tbl := List.mem_of_getElem? (i := 991) rfl
set_option maxRecDepth 100000 in
theorem cw_X5_noCell : m_cw M_X5_noCell ∈ lw_tbl := List.mem_of_getElem? (i := 999) rfl
set_option maxRecDepth 100000 in
theorem cw_X5_put : m_cw M_X5_put ∈ lw_tbl := List.mem_of_getElem? (i := 995) rfl
set_option maxRecDepth 100000 in
theorem cw_X5_cell : m_cw M_X5_cell ∈ lw_tbl := List.mem_of_getElem? (i := 1003) rfl
set_option maxRecDepth 100000 in
theorem cw_X5_isBeyond : m_cw M_X5_isBeyond ∈ lw_tbl := List.mem_of_getElem? (i := 756) rfl
set_option maxRecDepth 100000 in
theorem cw_X5_copy : m_cw M_X5_copy ∈ lw_tbl := List.mem_of_getElem? (i := 1011) rfl
set_option maxRecDepth 100000 in
theorem cw_X5_traced : m_cw M_X5_traced ∈ lw_tbl := List.mem_of_getElem? (i := 1019) rfl
set_option maxRecDepth 100000 in
theorem cw_X5_tell : m_cw M_X5_tell ∈ lw_tbl := List.mem_of_getElem? (i := 1015) rfl
set_option maxRecDepth 100000 in
theorem cw_X5_bribe : m_cw M_X5_bribe ∈ lw_tbl := List.mem_of_getElem? (i := 1023) rfl
set_option maxRecDepth 100000 in
theorem cw_X5_as : m_cw M_X5_as ∈ lw_tbl := List.mem_of_getElem? (i := 1027) rfl
set_option maxRecDepth 100000 in
theorem cw_X5_trace : m_cw M_X5_trace ∈ lw_tbl := List.mem_of_getElem? (i := 1031) rfl
set_option maxRecDepth 100000 in
theorem cw_X5_fault : m_cw M_X5_fault ∈ lw_tbl := List.mem_of_getElem? (i := 1035) rfl
set_option maxRecDepth 100000 in
theorem cw_X5_many : m_cw M_X5_many ∈ lw_tbl := List.mem_of_getElem? (i := 1039) rfl
set_option maxRecDepth 100000 in
theorem cw_J6_bitCount_0f7a4 : m_cw M_J6_bitCount_0f7a4 ∈ lw_tbl := List.mem_of_getElem? (i := 474) rfl
set_option maxRecDepth 100000 in
theorem cw_J7_fill_53178 : m_cw M_J7_fill_53178 ∈ lw_tbl := List.mem_of_getElem? (i := 279) rfl
set_option maxRecDepth 100000 in
theorem cw_J9_max_7cf53 : m_cw M_J9_max_7cf53 ∈ lw_tbl := List.mem_of_getElem? (i := 344) rfl
set_option maxRecDepth 100000 in
theorem cw_all : ∀ M ∈ m_ms.dropLast, m_cw M ∈ m_TB := fun M h => List.mem_filter.mpr ⟨(show ∀ M ∈ m_ms.dropLast, m_cw M ∈ lw_tbl from List.forall_mem_cons.mpr ⟨cw_X0_workOut, List.forall_mem_cons.mpr ⟨cw_X0_findReader, List.forall_mem_cons.mpr ⟨cw_X0_bringDown, List.forall_mem_cons.mpr ⟨cw_X0_linesBy, List.forall_mem_cons.mpr ⟨cw_X0_wetOfAll, List.forall_mem_cons.mpr ⟨cw_X0_wetFields, List.forall_mem_cons.mpr ⟨cw_X1_renew, List.forall_mem_cons.mpr ⟨cw_X1_faultOfTaking, List.forall_mem_cons.mpr ⟨cw_X1_hasCell, List.forall_mem_cons.mpr ⟨cw_X1_hasCells, List.forall_mem_cons.mpr ⟨cw_X1_cut, List.forall_mem_cons.mpr ⟨cw_X2_clear, List.forall_mem_cons.mpr ⟨cw_X2_become, List.forall_mem_cons.mpr ⟨cw_X2_hourOfReading, List.forall_mem_cons.mpr ⟨cw_X2_given, List.forall_mem_cons.mpr ⟨cw_X2_coughs, List.forall_mem_cons.mpr ⟨cw_X2_turnCough, List.forall_mem_cons.mpr ⟨cw_X2_coughCount, List.forall_mem_cons.mpr ⟨cw_X2_goesTo, List.forall_mem_cons.mpr ⟨cw_X2_beginnings, List.forall_mem_cons.mpr ⟨cw_X2_beginBy, List.forall_mem_cons.mpr ⟨cw_X2_does, List.forall_mem_cons.mpr ⟨cw_X3_firstFault, List.forall_mem_cons.mpr ⟨cw_X3_isText, List.forall_mem_cons.mpr ⟨cw_X3_takesLine, List.forall_mem_cons.mpr ⟨cw_X3_takesCrier, List.forall_mem_cons.mpr ⟨cw_X3_isAt, List.forall_mem_cons.mpr ⟨cw_X3_takes, List.forall_mem_cons.mpr ⟨cw_X3_takenKind, List.forall_mem_cons.mpr ⟨cw_X3_takenDigit, List.forall_mem_cons.mpr ⟨cw_X4_shower, List.forall_mem_cons.mpr ⟨cw_X4_ofLine, List.forall_mem_cons.mpr ⟨cw_X4_ofCrier, List.forall_mem_cons.mpr ⟨cw_X4_print, List.forall_mem_cons.mpr ⟨cw_X4_begin, List.forall_mem_cons.mpr ⟨cw_X4_cough, List.forall_mem_cons.mpr ⟨cw_X4_comes, List.forall_mem_cons.mpr ⟨cw_X4_wet, List.forall_mem_cons.mpr ⟨cw_X4_day, List.forall_mem_cons.mpr ⟨cw_X4_areActs, List.forall_mem_cons.mpr ⟨cw_X4_isAct, List.forall_mem_cons.mpr ⟨cw_X4_firstWrong, List.forall_mem_cons.mpr ⟨cw_X4_answerOfDay, List.forall_mem_cons.mpr ⟨cw_X4_isAskedOfDay, List.forall_mem_cons.mpr ⟨cw_X4_whole, List.forall_mem_cons.mpr ⟨cw_X4_most, List.forall_mem_cons.mpr ⟨cw_X4_startIn, List.forall_mem_cons.mpr ⟨cw_X4_strayed, List.forall_mem_cons.mpr ⟨cw_X4_saved, List.forall_mem_cons.mpr ⟨cw_X4_savesBy, List.forall_mem_cons.mpr ⟨cw_X4_misprint, List.forall_mem_cons.mpr ⟨cw_X4_isWetBy, List.forall_mem_cons.mpr ⟨cw_X4_rests, List.forall_mem_cons.mpr ⟨cw_X4_painOfFirst, List.forall_mem_cons.mpr ⟨cw_X4_painOfSecond, List.forall_mem_cons.mpr ⟨cw_X4_coughInTrial, List.forall_mem_cons.mpr ⟨cw_X4_reading, List.forall_mem_cons.mpr ⟨cw_X4_back, List.forall_mem_cons.mpr ⟨cw_X4_kinds, List.forall_mem_cons.mpr ⟨cw_X4_paces, List.forall_mem_cons.mpr ⟨cw_X4_starts, List.forall_mem_cons.mpr ⟨cw_X4_fitting, List.forall_mem_cons.mpr ⟨cw_X4_allReadingsAreSo, List.forall_mem_cons.mpr ⟨cw_X4_odds, List.forall_mem_cons.mpr ⟨cw_X4_commonPart, List.forall_mem_cons.mpr ⟨cw_X4_sheet, List.forall_mem_cons.mpr ⟨cw_X4_lose, List.forall_mem_cons.mpr ⟨cw_X4_put, List.forall_mem_cons.mpr ⟨cw_X4_cell, List.forall_mem_cons.mpr ⟨cw_X4_copy, List.forall_mem_cons.mpr ⟨cw_X4_tell, List.forall_mem_cons.mpr ⟨cw_X4_plainTelling, List.forall_mem_cons.mpr ⟨cw_X4_mumblingTelling, List.forall_mem_cons.mpr ⟨cw_X4_chantingTelling, List.forall_mem_cons.mpr ⟨cw_X4_bribe, List.forall_mem_cons.mpr ⟨cw_X4_leave, List.forall_mem_cons.mpr ⟨cw_X4_as, List.forall_mem_cons.mpr ⟨cw_X4_trace, List.forall_mem_cons.mpr ⟨cw_X4_fault, List.forall_mem_cons.mpr ⟨cw_X4_many, List.forall_mem_cons.mpr ⟨cw_X4_faulted, List.forall_mem_cons.mpr ⟨cw_X4_refusalOf, List.forall_mem_cons.mpr ⟨cw_X4_hasShower, List.forall_mem_cons.mpr ⟨cw_X4_isLine, List.forall_mem_cons.mpr ⟨cw_X4_isCrier, List.forall_mem_cons.mpr ⟨cw_X4_isField, List.forall_mem_cons.mpr ⟨cw_X4_isHour, List.forall_mem_cons.mpr ⟨cw_X4_isSheet, List.forall_mem_cons.mpr ⟨cw_X4_isLane, List.forall_mem_cons.mpr ⟨cw_X4_isWithin, List.forall_mem_cons.mpr ⟨cw_X5_in, List.forall_mem_cons.mpr ⟨cw_X5_lost, List.forall_mem_cons.mpr ⟨cw_X5_bits, List.forall_mem_cons.mpr ⟨cw_X5_share, List.forall_mem_cons.mpr ⟨cw_X5_refused, List.forall_mem_cons.mpr ⟨cw_X5_failed, List.forall_mem_cons.mpr ⟨cw_X5_failedLong, List.forall_mem_cons.mpr ⟨cw_X5_noLine, List.forall_mem_cons.mpr ⟨cw_X5_noCrier, List.forall_mem_cons.mpr ⟨cw_X5_noField, List.forall_mem_cons.mpr ⟨cw_X5_isHour, List.forall_mem_cons.mpr ⟨cw_X5_codeAt, List.forall_mem_cons.mpr ⟨cw_X5_figure, List.forall_mem_cons.mpr ⟨cw_X5_readsLine, List.forall_mem_cons.mpr ⟨cw_X5_readsCrier, List.forall_mem_cons.mpr ⟨cw_X5_readsShower, List.forall_mem_cons.mpr ⟨cw_X5_cellsBarred, List.forall_mem_cons.mpr ⟨cw_X5_shower, List.forall_mem_cons.mpr ⟨cw_X5_hourBy, List.forall_mem_cons.mpr ⟨cw_X5_reads, List.forall_mem_cons.mpr ⟨cw_X5_given, List.forall_mem_cons.mpr ⟨cw_X5_coughs, List.forall_mem_cons.mpr ⟨cw_X5_falls, List.forall_mem_cons.mpr ⟨cw_X5_rains, List.forall_mem_cons.mpr ⟨cw_X5_wetOfAll, List.forall_mem_cons.mpr ⟨cw_X5_thoseThatHang, List.forall_mem_cons.mpr ⟨cw_X5_thoseOfMud, List.forall_mem_cons.mpr ⟨cw_X5_ofLine, List.forall_mem_cons.mpr ⟨cw_X5_ofCrier, List.forall_mem_cons.mpr ⟨cw_X5_print, List.forall_mem_cons.mpr ⟨cw_X5_begin, List.forall_mem_cons.mpr ⟨cw_X5_coughed, List.forall_mem_cons.mpr ⟨cw_X5_cough, List.forall_mem_cons.mpr ⟨cw_X5_comes, List.forall_mem_cons.mpr ⟨cw_X5_wetNow, List.forall_mem_cons.mpr ⟨cw_X5_wet, List.forall_mem_cons.mpr ⟨cw_X5_isAsTold, List.forall_mem_cons.mpr ⟨cw_X5_doesPair, List.forall_mem_cons.mpr ⟨cw_X5_dayOf, List.forall_mem_cons.mpr ⟨cw_X5_keeps, List.forall_mem_cons.mpr ⟨cw_X5_bringsBack, List.forall_mem_cons.mpr ⟨cw_X5_day, List.forall_mem_cons.mpr ⟨cw_X5_beginnings, List.forall_mem_cons.mpr ⟨cw_X5_begins, List.forall_mem_cons.mpr ⟨cw_X5_startIn, List.forall_mem_cons.mpr ⟨cw_X5_whole, List.forall_mem_cons.mpr ⟨cw_X5_most, List.forall_mem_cons.mpr ⟨cw_X5_strayed, List.forall_mem_cons.mpr ⟨cw_X5_areSaved, List.forall_mem_cons.mpr ⟨cw_X5_saved, List.forall_mem_cons.mpr ⟨cw_X5_apart, List.forall_mem_cons.mpr ⟨cw_X5_misprint, List.forall_mem_cons.mpr ⟨cw_X5_pain, List.forall_mem_cons.mpr ⟨cw_X5_rests, List.forall_mem_cons.mpr ⟨cw_X5_reading, List.forall_mem_cons.mpr ⟨cw_X5_back, List.forall_mem_cons.mpr ⟨cw_X5_areSo, List.forall_mem_cons.mpr ⟨cw_X5_kinds, List.forall_mem_cons.mpr ⟨cw_X5_paces, List.forall_mem_cons.mpr ⟨cw_X5_starts, List.forall_mem_cons.mpr ⟨cw_X5_odds, List.forall_mem_cons.mpr ⟨cw_X5_noSheet, List.forall_mem_cons.mpr ⟨cw_X5_sheet, List.forall_mem_cons.mpr ⟨cw_X5_lose, List.forall_mem_cons.mpr ⟨cw_X5_noCell, List.forall_mem_cons.mpr ⟨cw_X5_put, List.forall_mem_cons.mpr ⟨cw_X5_cell, List.forall_mem_cons.mpr ⟨cw_X5_isBeyond, List.forall_mem_cons.mpr ⟨cw_X5_copy, List.forall_mem_cons.mpr ⟨cw_X5_traced, List.forall_mem_cons.mpr ⟨cw_X5_tell, List.forall_mem_cons.mpr ⟨cw_X5_bribe, List.forall_mem_cons.mpr ⟨cw_X5_as, List.forall_mem_cons.mpr ⟨cw_X5_trace, List.forall_mem_cons.mpr ⟨cw_X5_fault, List.forall_mem_cons.mpr ⟨cw_X5_many, List.forall_mem_cons.mpr ⟨cw_J6_bitCount_0f7a4, List.forall_mem_cons.mpr ⟨cw_J7_fill_53178, List.forall_mem_cons.mpr ⟨cw_J9_max_7cf53, fun _ h => absurd h List.not_mem_nil⟩⟩⟩⟩⟩⟩⟩⟩⟩⟩⟩⟩⟩⟩⟩⟩⟩⟩⟩⟩⟩⟩⟩⟩⟩⟩⟩⟩⟩⟩⟩⟩⟩⟩⟩⟩⟩⟩⟩⟩⟩⟩⟩⟩⟩⟩⟩⟩⟩⟩⟩⟩⟩⟩⟩⟩⟩⟩⟩⟩⟩⟩⟩⟩⟩⟩⟩⟩⟩⟩⟩⟩⟩⟩⟩⟩⟩⟩⟩⟩⟩⟩⟩⟩⟩⟩⟩⟩⟩⟩⟩⟩⟩⟩⟩⟩⟩⟩⟩⟩⟩⟩⟩⟩⟩⟩⟩⟩⟩⟩⟩⟩⟩⟩⟩⟩⟩⟩⟩⟩⟩⟩⟩⟩⟩⟩⟩⟩⟩⟩⟩⟩⟩⟩⟩⟩⟩⟩⟩⟩⟩⟩⟩⟩⟩⟩⟩⟩⟩⟩⟩⟩⟩⟩⟩⟩⟩⟩⟩⟩⟩⟩⟩⟩⟩⟩⟩⟩⟩) M h, rfl⟩
theorem iw_ok : ∀ y ∈ m_ins, Cond.instanceMethod (m_M y).2.1 ∈ m_TB := m_batch m_ins (fun y => Cond.instanceMethod (m_M y).2.1) [322, 328, 336, 362, 437, 465, 547, 255, 560, 263, 564, 274, 309, 331, 339, 350, 396, 617, 346, 445, 449, 428, 267, 282, 294, 302, 290, 286, 306, 298, 245, 314, 354, 367, 374, 378, 401, 405, 409, 417, 421, 425, 434, 441, 457, 454, 461, 469, 480, 483, 488, 491, 496, 504, 500, 507, 511, 515, 527, 531, 520, 524, 535, 543, 552, 556, 568, 572, 577, 582, 590, 594, 597, 586, 601, 605, 609, 613, 260, 386, 393, 319, 359, 743, 752, 1006, 783, 815, 763, 771, 767, 775, 759, 748, 731, 795, 791, 799, 807, 803, 787, 881, 885, 889, 778, 810, 818, 823, 839, 827, 842, 851, 846, 875, 871, 867, 893, 854, 902, 906, 910, 896, 913, 917, 931, 921, 934, 946, 941, 949, 954, 963, 958, 966, 970, 974, 985, 989, 998, 993, 1001, 1009, 1018, 1013, 1021, 1025, 1029, 1033, 1037] (by decide +kernel) (by decide +kernel)
theorem sw_ok : ∀ y ∈ m_ins, Cond.selects (m_M y).2.1.cls (m_M y).2.1 (m_M y).2.1 ∈ m_TB := m_batch m_ins (fun y => Cond.selects (m_M y).2.1.cls (m_M y).2.1 (m_M y).2.1) [323, 9, 10, 363, 438, 466, 548, 256, 561, 264, 565, 275, 310, 332, 340, 351, 397, 618, 347, 446, 450, 429, 268, 1, 4, 6, 3, 2, 7, 5, 246, 315, 355, 368, 375, 379, 402, 406, 410, 14, 15, 16, 17, 442, 458, 18, 462, 470, 19, 484, 20, 492, 21, 23, 22, 508, 512, 516, 528, 532, 24, 25, 536, 544, 553, 557, 569, 573, 578, 26, 28, 29, 598, 27, 602, 606, 610, 614, 0, 12, 13, 8, 11, 30, 32, 62, 38, 45, 34, 36, 35, 37, 33, 31, 732, 41, 40, 42, 44, 43, 39, 51, 52, 53, 779, 811, 819, 824, 46, 828, 843, 47, 847, 50, 49, 48, 54, 855, 55, 56, 57, 897, 914, 918, 58, 922, 935, 59, 942, 950, 955, 60, 959, 967, 971, 975, 986, 990, 61, 994, 1002, 1010, 63, 1014, 1022, 1026, 1030, 1034, 1038] (by decide +kernel) (by decide +kernel)
theorem tw_ok : ∀ y ∈ m_sts, Cond.static (m_M y).2.1 ∈ m_TB := m_batch m_sts (fun y => Cond.static (m_M y).2.1) [413, 540, 389, 382, 249, 252, 371, 739, 978, 927, 982, 831, 834, 862, 938, 735, 755, 473, 278, 343] (by decide +kernel) (by decide +kernel)
theorem nw_ok : ∀ i ∈ List.range 10, Cond.initialized (m_cn i) ∈ m_TB := m_batch (List.range 10) (fun i => Cond.initialized (m_cn i)) [67, 69, 66, 68, 65, 70, 74, 72, 73, 64] (by decide +kernel) (by decide +kernel)
theorem fw_ok : ∀ q ∈ m_fls, m_fw q ∈ m_TB := m_batch m_fls m_fw m_flp (by decide +kernel) (by decide +kernel)
theorem mw_ok : ∀ q ∈ m_mls, Cond.methodLink (m_cn q.1) q.2.1 (m_M q.2.2).2.1 ∈ m_TB := m_batch m_mls (fun q => Cond.methodLink (m_cn q.1) q.2.1 (m_M q.2.2).2.1) m_mlp (by decide +kernel) (by decide +kernel)
theorem aw_ok : ∀ q ∈ m_acs, Cond.methodLink (m_cn q.1) q.2 arraycopyName ∈ m_TB := m_batch m_acs (fun q => Cond.methodLink (m_cn q.1) q.2 arraycopyName) m_acp (by decide +kernel) (by decide +kernel)
theorem ow_ok : ∀ q ∈ m_cos, Cond.constant (m_cn q.1) q.2.1 q.2.2 ∈ m_TB := m_batch m_cos (fun q => Cond.constant (m_cn q.1) q.2.1 q.2.2) m_cop (by decide +kernel) (by decide +kernel)
theorem lw_ok : ∀ q ∈ m_los, Cond.constantLong (m_cn q.1) q.2.1 q.2.2 ∈ m_TB := m_batch m_los (fun q => Cond.constantLong (m_cn q.1) q.2.1 q.2.2) m_lop (by decide +kernel) (by decide +kernel)
theorem zw_ok : ∀ w ∈ ([.native arraycopyName, .static arraycopyName, .initialized "java/lang/System"] : List Cond), w ∈ m_TB := m_batch ([.native arraycopyName, .static arraycopyName, .initialized "java/lang/System"] : List Cond) (fun w => w) [272, 271, 71] (by decide +kernel) (by decide +kernel)
theorem uw_0 : ∀ w ∈ u_ws "RainRead$Fall" m_T0 8, w ∈ m_TB := m_batch (u_ws "RainRead$Fall" m_T0 8) (fun w => w) [156, 158, 160, 162, 164, 166, 168, 170] (by decide +kernel) (by decide +kernel)
theorem ty_0 : ∀ k, k < 8 → parseFieldDescriptor (m_T0 k).2.2.1 = some (m_y0 k) := by decide +kernel
theorem nn_0 : ∀ a, a < 8 → ∀ b, b < 8 → a ≠ b → (m_T0 a).2.1 ≠ (m_T0 b).2.1 := by decide +kernel
theorem uw_1 : ∀ w ∈ u_ws "RainRead$Sheet" m_T1 4, w ∈ m_TB := m_batch (u_ws "RainRead$Sheet" m_T1 4) (fun w => w) [204, 206, 208, 210] (by decide +kernel) (by decide +kernel)
theorem ty_1 : ∀ k, k < 4 → parseFieldDescriptor (m_T1 k).2.2.1 = some (m_y1 k) := by decide +kernel
theorem nn_1 : ∀ a, a < 4 → ∀ b, b < 4 → a ≠ b → (m_T1 a).2.1 ≠ (m_T1 b).2.1 := by decide +kernel
theorem uw_2 : ∀ w ∈ u_ws "RainRead$Shower" m_T2 8, w ∈ m_TB := m_batch (u_ws "RainRead$Shower" m_T2 8) (fun w => w) [116, 118, 120, 122, 124, 126, 128, 130] (by decide +kernel) (by decide +kernel)
theorem ty_2 : ∀ k, k < 8 → parseFieldDescriptor (m_T2 k).2.2.1 = some (m_y2 k) := by decide +kernel
theorem nn_2 : ∀ a, a < 8 → ∀ b, b < 8 → a ≠ b → (m_T2 a).2.1 ≠ (m_T2 b).2.1 := by decide +kernel
theorem uw_3 : ∀ w ∈ u_ws "RainRead$TextReader" m_T3 3, w ∈ m_TB := m_batch (u_ws "RainRead$TextReader" m_T3 3) (fun w => w) [182, 184, 186] (by decide +kernel) (by decide +kernel)
theorem ty_3 : ∀ k, k < 3 → parseFieldDescriptor (m_T3 k).2.2.1 = some (m_y3 k) := by decide +kernel
theorem nn_3 : ∀ a, a < 3 → ∀ b, b < 3 → a ≠ b → (m_T3 a).2.1 ≠ (m_T3 b).2.1 := by decide +kernel
theorem uw_4 : ∀ w ∈ u_ws "RainRead" m_T4 10, w ∈ m_TB := m_batch (u_ws "RainRead" m_T4 10) (fun w => w) [223, 225, 227, 229, 231, 233, 235, 237, 239, 241] (by decide +kernel) (by decide +kernel)
theorem ty_4 : ∀ k, k < 10 → parseFieldDescriptor (m_T4 k).2.2.1 = some (m_y4 k) := by decide +kernel
theorem nn_4 : ∀ a, a < 10 → ∀ b, b < 10 → a ≠ b → (m_T4 a).2.1 ≠ (m_T4 b).2.1 := by decide +kernel
theorem uw_5 : ∀ w ∈ u_ws "RainReadModel" m_T5 34, w ∈ m_TB := m_batch (u_ws "RainReadModel" m_T5 34) (fun w => w) [661, 663, 665, 667, 669, 671, 673, 675, 677, 679, 681, 683, 685, 687, 689, 691, 693, 695, 697, 699, 701, 703, 705, 707, 709, 711, 713, 715, 717, 719, 721, 723, 725, 727] (by decide +kernel) (by decide +kernel)
theorem ty_5 : ∀ k, k < 34 → parseFieldDescriptor (m_T5 k).2.2.1 = some (m_y5 k) := by decide +kernel
theorem nn_5 : ∀ a, a < 34 → ∀ b, b < 34 → a ≠ b → (m_T5 a).2.1 ≠ (m_T5 b).2.1 := by decide +kernel
