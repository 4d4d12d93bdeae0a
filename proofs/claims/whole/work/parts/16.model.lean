/-! ===== the reference: small questions ===== -/
theorem lg_lt {x y : Int64} : lg_cmp x y < 0 ↔ x < y := by
  unfold lg_cmp
  by_cases h1 : x > y
  · rw [if_pos h1]
    exact ⟨fun z => absurd z (by decide), fun z => absurd (Int64.lt_trans z h1) (Int64.lt_irrefl)⟩
  · rw [if_neg h1]
    by_cases h2 : x = y
    · rw [if_pos h2]
      exact ⟨fun z => absurd z (by decide), fun z => absurd z (by rw [h2]; exact Int64.lt_irrefl)⟩
    · rw [if_neg h2]
      exact ⟨fun _ => (Int64.lt_of_le_of_ne (Int64.not_lt.mp h1) h2), fun _ => by decide⟩
theorem lg_gt {x y : Int64} : 0 < lg_cmp x y ↔ y < x := by
  unfold lg_cmp
  by_cases h1 : x > y
  · rw [if_pos h1]
    exact ⟨fun _ => h1, fun _ => by decide⟩
  · rw [if_neg h1]
    by_cases h2 : x = y
    · rw [if_pos h2]
      exact ⟨fun z => absurd z (by decide), fun z => absurd z h1⟩
    · rw [if_neg h2]
      exact ⟨fun z => absurd z (by decide), fun z => absurd z h1⟩
theorem c_in {L d : Nat} {v l g : Int64} {D : m_D} {Q : m_K} (h1 : l ≤ v → v ≤ g → Q (some (.int 1)) D) (h0 : ¬ (l ≤ v ∧ v ≤ g) → Q (some (.int 0)) D) : m_call L (d + 1) 90 [.long v, .long l, .long g] D Q := by
  refine v_in (tb' := t_X5_in) (rk' := 2) rfl rfl rfl ?_
  refine v_go rfl ?_
  refine v_br rfl (fun z => ?_) (fun z => ?_)
  · refine v_go rfl ?_
    exact v_rt rfl (Or.inl rfl) (h0 (fun y => absurd (lg_lt.mp z) (Int64.not_lt.mpr y.1)))
  · refine v_go rfl ?_
    have z : l ≤ v := Int64.not_lt.mp (fun y => z (lg_lt.mpr y))
    refine v_br rfl (fun z2 => ?_) (fun z2 => ?_)
    · refine v_go rfl ?_
      exact v_rt rfl (Or.inl rfl) (h0 (fun y => absurd (lg_gt.mp z2) (Int64.not_lt.mpr y.2)))
    · refine v_go rfl ?_
      exact v_rt rfl (Or.inr rfl) (h1 z (Int64.not_lt.mp (fun y => z2 (lg_gt.mpr y))))
/-- a number within 0 .. n - 1, by longs -/
theorem in_iff {x : Int32} {g : Int64} {n : Nat} (hg : g.toInt = (n : Int) - 1) : (0 ≤ x.toInt64 ∧ x.toInt64 ≤ g) ↔ vp_in x n := by
  rw [vp_in_iff, Int64.le_iff_toInt_le, Int64.le_iff_toInt_le, Int32.toInt_toInt64, hg]
  have : (0 : Int64).toInt = 0 := by decide
  rw [this]
  omega
theorem in_n1 {n : Nat} (h : n < 1000) : ((nI n).toInt64 - 1).toInt = (n : Int) - 1 := by
  rw [nI_l (by omega), Int64.toInt_sub, lN_toInt (by omega)]
  have : (1 : Int64).toInt = 1 := by decide
  rw [this]
  apply Int.bmod_eq_of_le <;> omega
theorem c_noLine {L d n : Nat} {x : Int32} {D : m_D} {Q : m_K} (hn : D 34 1 = nI n) (h6 : n ≤ 6) (h0 : vp_in x n → Q (some (.int 0)) D) (h1 : ¬ vp_in x n → Q (some (.int 1)) D) : m_call L (d + 2) 97 [.ref 34, .int x] D Q := by
  refine v_in (tb' := t_X5_noLine) (rk' := 2) rfl rfl rfl ?_
  refine v_go rfl ?_
  rw [hn]
  refine v_ca rfl ?_
  refine c_in (fun a b => ?_) (fun a => ?_)
  · refine v_go rfl ?_
    refine v_bT rfl (by decide) ?_
    refine v_go rfl ?_
    exact v_rt rfl (Or.inl rfl) (h0 ((in_iff (in_n1 (by omega))).mp ⟨a, b⟩))
  · refine v_go rfl ?_
    refine v_bF rfl (by decide) ?_
    refine v_go rfl ?_
    exact v_rt rfl (Or.inr rfl) (h1 (fun z => a ((in_iff (in_n1 (by omega))).mpr z)))
theorem c_noCrier {L d n : Nat} {x : Int32} {D : m_D} {Q : m_K} (hn : D 34 2 = nI n) (h6 : n ≤ 6) (h0 : vp_in x n → Q (some (.int 0)) D) (h1 : ¬ vp_in x n → Q (some (.int 1)) D) : m_call L (d + 2) 98 [.ref 34, .int x] D Q := by
  refine v_in (tb' := t_X5_noCrier) (rk' := 2) rfl rfl rfl ?_
  refine v_go rfl ?_
  rw [hn]
  refine v_ca rfl ?_
  refine c_in (fun a b => ?_) (fun a => ?_)
  · refine v_go rfl ?_
    refine v_bT rfl (by decide) ?_
    refine v_go rfl ?_
    exact v_rt rfl (Or.inl rfl) (h0 ((in_iff (in_n1 (by omega))).mp ⟨a, b⟩))
  · refine v_go rfl ?_
    refine v_bF rfl (by decide) ?_
    refine v_go rfl ?_
    exact v_rt rfl (Or.inr rfl) (h1 (fun z => a ((in_iff (in_n1 (by omega))).mpr z)))
theorem c_noField {L d : Nat} {x : Int32} {D : m_D} {Q : m_K} (h0 : vp_in x 4 → Q (some (.int 0)) D) (h1 : ¬ vp_in x 4 → Q (some (.int 1)) D) : m_call L (d + 2) 99 [.int x] D Q := by
  have hg : (3 : Int64).toInt = ((4 : Nat) : Int) - 1 := by decide
  refine v_in (tb' := t_X5_noField) (rk' := 2) rfl rfl rfl ?_
  refine v_go rfl ?_
  refine v_ca rfl ?_
  refine c_in (fun a b => ?_) (fun a => ?_)
  · refine v_go rfl ?_
    refine v_bT rfl (by decide) ?_
    refine v_go rfl ?_
    exact v_rt rfl (Or.inl rfl) (h0 ((in_iff hg).mp ⟨a, b⟩))
  · refine v_go rfl ?_
    refine v_bF rfl (by decide) ?_
    refine v_go rfl ?_
    exact v_rt rfl (Or.inr rfl) (h1 (fun z => a ((in_iff hg).mpr z)))
theorem c_isHourM {L d : Nat} {x : Int32} {D : m_D} {Q : m_K} (h1 : vp_in x 6 → Q (some (.int 1)) D) (h0 : ¬ vp_in x 6 → Q (some (.int 0)) D) : m_call L (d + 2) 100 [.int x] D Q := by
  have hg : (5 : Int64).toInt = ((6 : Nat) : Int) - 1 := by decide
  refine v_in (tb' := t_X5_isHour) (rk' := 2) rfl rfl rfl ?_
  refine v_go rfl ?_
  refine v_ca rfl ?_
  refine c_in (fun a b => ?_) (fun a => ?_)
  · exact v_rt rfl (Or.inr rfl) (h1 ((in_iff hg).mp ⟨a, b⟩))
  · exact v_rt rfl (Or.inl rfl) (h0 (fun z => a ((in_iff hg).mpr z)))
theorem c_hourBy {L d c l : Nat} {S : SH} {D : m_D} {Q : m_K} (hr : relM D S) (ho : okS S) (hc : c < S.2.1) (hl : l < 6) (h : Q (some (.int (oI (p_hb l (S.2.2.1 4 c) (S.2.2.1 3 c))))) D) : m_call L (d + 1) 108 [.ref 34, .int (nI c), .int (nI l)] D Q := by
  obtain ⟨-, -, -, r4, -⟩ := hr
  obtain ⟨-, r5, r6⟩ := r4 c hc
  obtain ⟨o1, o2, -, o4⟩ := ho
  obtain ⟨-, o5, o6, o7⟩ := o4 c hc
  have hcl : (nI c).toNatClampNeg = c := nI_clamp (by omega)
  have hin : vp_in (nI c) 3 := vp_in_nI (by omega) (by omega)
  refine v_in (tb' := t_X5_hourBy) (rk' := 1) rfl rfl rfl ?_
  refine v_go rfl ?_
  refine v_sd rfl hin ?_
  rw [hcl, r6]
  unfold p_hb at h
  by_cases hlt : l < S.2.2.1 4 c
  · rw [if_pos hlt] at h
    refine v_bF rfl (nI_ge hlt (by omega)) ?_
    refine v_go rfl ?_
    exact v_rt rfl trivial h
  · rw [if_neg hlt] at h
    refine v_bT rfl (nI_le (by omega) (by omega)) ?_
    refine v_go rfl ?_
    refine v_sd rfl hin ?_
    rw [hcl, r6]
    refine v_go rfl ?_
    refine v_sd rfl hin ?_
    rw [hcl, r5]
    refine v_sd rfl (nI_ne0 (by omega) (by omega)) ?_
    refine v_rt rfl trivial ?_
    rw [pk_sub (by omega), pk_div (by omega) (by omega) (by omega)]
    exact h
theorem c_givenM {L d c dr : Nat} {S : SH} {D : m_D} {Q : m_K} (hr : relM D S) (ho : okS S) (hc : c < S.2.1) (hd : dr ≤ 9) (h : Q (some (.int (nI (p_give (S.2.2.1 2 c) dr)))) D) : m_call L (d + 1) 110 [.ref 34, .int (nI c), .int (nI dr)] D Q := by
  obtain ⟨-, -, -, r4, -⟩ := hr
  obtain ⟨r5, -, -⟩ := r4 c hc
  obtain ⟨o1, o2, -, o4⟩ := ho
  obtain ⟨o5, -⟩ := o4 c hc
  have hcl : (nI c).toNatClampNeg = c := nI_clamp (by omega)
  have hin : vp_in (nI c) 3 := vp_in_nI (by omega) (by omega)
  generalize S.2.2.1 2 c = kd at *
  have key : m_V L d Q t_X5_given 1 (11, [some (.ref 34), some (.int (nI c)), some (.int (nI dr)), none], [.int (nI (dr - 1))], D) := by
    refine v_go rfl ?_
    refine v_sd rfl hin ?_
    rw [hcl, r5]
    match kd, o5, h, r5 with
    | 0, _, h, _ =>
      refine v_bF rfl (fun z => z rfl) ?_
      refine v_go rfl ?_
      exact v_rt rfl trivial h
    | 1, _, h, r5 =>
      refine v_bT rfl (by decide) ?_
      refine v_go rfl ?_
      refine v_sd rfl hin ?_
      rw [hcl, r5]
      refine v_go rfl ?_
      refine v_bF rfl (fun z => z rfl) ?_
      refine v_go rfl ?_
      exact v_rt rfl trivial h
    | 2, _, h, r5 =>
      refine v_bT rfl (by decide) ?_
      refine v_go rfl ?_
      refine v_sd rfl hin ?_
      rw [hcl, r5]
      refine v_go rfl ?_
      refine v_bT rfl (by decide) ?_
      refine v_go rfl ?_
      refine v_rt rfl trivial ?_
      rw [nI_add]
      exact h
  refine v_in (tb' := t_X5_given) (rk' := 1) rfl rfl rfl ?_
  refine v_go rfl ?_
  cases dr with
  | zero =>
    refine v_bT rfl (by decide) ?_
    exact v_run 1 rfl key
  | succ dr =>
    refine v_bF rfl (nI_nle (by omega) (by omega)) ?_
    have key := key
    rw [Nat.add_sub_cancel, ← nI_pred dr] at key
    exact v_run 4 rfl key
theorem c_coughsM {L d f t : Nat} {S : SH} {D : m_D} {Q : m_K} (hr : relM D S) (hf : f < 4) (ht : t < 6) (h1 : S.2.2.2 f t = true → Q (some (.int 1)) D) (h0 : S.2.2.2 f t = false → Q (some (.int 0)) D) : m_call L (d + 1) 111 [.ref 34, .int (nI f), .int (nI t)] D Q := by
  obtain ⟨-, -, -, -, r5⟩ := hr
  have r6 := r5 f hf
  have hcl : (nI f).toNatClampNeg = f := nI_clamp (by omega)
  have hin : vp_in (nI f) 4 := vp_in_nI (by omega) (by omega)
  have hb := b_bit6 (fun t => S.2.2.2 f t) ht
  refine v_in (tb' := t_X5_coughs) (rk' := 2) rfl rfl rfl ?_
  refine v_go rfl ?_
  refine v_sd rfl hin ?_
  rw [hcl, r6]
  refine v_go rfl ?_
  rw [hb]
  cases hg : S.2.2.2 f t with
  | true =>
    refine v_bF rfl (by decide) ?_
    refine v_go rfl ?_
    exact v_rt rfl (Or.inr rfl) (h1 hg)
  | false =>
    refine v_bT rfl (by decide) ?_
    refine v_go rfl ?_
    exact v_rt rfl (Or.inl rfl) (h0 hg)
