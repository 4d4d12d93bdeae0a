/-! ===== the class's rain: Arrays.fill, hourOfReading, given, coughs, goesTo, findReader ===== -/
theorem c_hor {L d B c l : Nat} {S : SH} {D : m_D} {Q : m_K} (hB : B = 1 ∨ B = 8) (hr : relC B D S) (ho : okS S) (hc : c < S.2.1) (hl : l < 6) (h : Q (some (.int (oI (p_hb l (S.2.2.1 4 c) (S.2.2.1 3 c))))) D) : m_call L (d + 1) 13 [.ref B, .int (nI c), .int (nI l)] D Q := by
  obtain ⟨-, -, -, r4, -⟩ := hr
  obtain ⟨-, r5, r6⟩ := r4 c hc
  obtain ⟨o1, o2, -, o4⟩ := ho
  obtain ⟨-, o5, o6, o7⟩ := o4 c hc
  have hcl : (nI c).toNatClampNeg = c := nI_clamp (by omega)
  have hin : vp_in (nI c) 3 := vp_in_nI (by omega) (by omega)
  rcases hB with rfl | rfl
  all_goals
    refine v_in (tb' := t_X2_hourOfReading) (rk' := 1) rfl rfl rfl ?_
    refine v_go rfl ?_
    refine v_sd rfl hin ?_
    refine v_go rfl ?_
    refine v_sd rfl hin ?_
    rw [hcl]
    unfold p_hb at h
    by_cases hlt : l < S.2.2.1 4 c
    · rw [if_pos hlt] at h
      refine v_bT rfl (by rw [r6]; exact nI_lt hlt (by omega)) ?_
      refine v_go rfl ?_
      exact v_rt rfl trivial h
    · rw [if_neg hlt] at h
      refine v_bF rfl (by rw [r6]; exact nI_nlt (by omega) (by omega)) ?_
      refine v_go rfl ?_
      refine v_bT rfl (by rw [r5]; exact nI_le (a := 1) o5 (by omega)) ?_
      refine v_go rfl ?_
      refine v_sd rfl hin ?_
      rw [hcl]
      refine v_go rfl ?_
      refine v_sd rfl (by rw [r5]; exact nI_ne0 (by omega) (by omega)) ?_
      refine v_go rfl ?_
      refine v_rt rfl trivial ?_
      rw [r5, r6, pk_sub (by omega), pk_div (by omega) (by omega) (by omega)]
      exact h
theorem c_max {L d dr : Nat} {D : m_D} {Q : m_K} (hd : dr ≤ 9) (h : Q (some (.int (nI (dr - 1)))) D) : m_call L (d + 1) 168 [.int (nI dr - 1), .int 0] D Q := by
  refine v_in (tb' := t_J9_max_7cf53) (rk' := 1) rfl rfl rfl ?_
  refine v_go rfl ?_
  cases dr with
  | zero =>
    refine v_bT rfl (by decide) ?_
    refine v_go rfl ?_
    exact v_rt rfl trivial h
  | succ dr =>
    rw [nI_pred]
    refine v_bF rfl (by exact nI_pos (by omega)) ?_
    refine v_go rfl ?_
    exact v_rt rfl trivial h
theorem c_given {L d B c dr : Nat} {S : SH} {D : m_D} {Q : m_K} (hB : B = 1 ∨ B = 8) (hr : relC B D S) (ho : okS S) (hc : c < S.2.1) (hd : dr ≤ 9) (h : Q (some (.int (nI (p_give (S.2.2.1 2 c) dr)))) D) : m_call L (d + 2) 14 [.ref B, .int (nI c), .int (nI dr)] D Q := by
  obtain ⟨-, -, -, r4, -⟩ := hr
  obtain ⟨r5, -, -⟩ := r4 c hc
  obtain ⟨o1, o2, -, o4⟩ := ho
  obtain ⟨o5, -⟩ := o4 c hc
  have hcl : (nI c).toNatClampNeg = c := nI_clamp (by omega)
  have hin : vp_in (nI c) 3 := vp_in_nI (by omega) (by omega)
  generalize S.2.2.1 2 c = kd at *
  rcases hB with rfl | rfl
  all_goals
    refine v_in (tb' := t_X2_given) (rk' := 1) rfl rfl rfl ?_
    refine v_go rfl ?_
    refine v_ca rfl ?_
    refine c_max hd ?_
    refine v_go rfl ?_
    refine v_sd rfl hin ?_
    rw [hcl, r5]
    refine v_sw rfl ?_
    match kd, o5, h with
    | 0, _, h =>
      refine br_c (fun _ => ?_) (fun z => absurd (by decide) z)
      refine v_go rfl ?_
      exact v_rt rfl trivial h
    | 1, _, h =>
      refine br_c (fun z => absurd z (by decide)) (fun _ => ?_)
      refine br_c (fun _ => ?_) (fun z => absurd (by decide) z)
      refine v_go rfl ?_
      exact v_rt rfl trivial h
    | 2, _, h =>
      refine br_c (fun z => absurd z (by decide)) (fun _ => ?_)
      refine br_c (fun z => absurd z (by decide)) (fun _ => ?_)
      refine v_go rfl ?_
      refine v_rt rfl trivial ?_
      rw [nI_add]
      exact h
theorem c_coughs {L d B f t : Nat} {S : SH} {D : m_D} {Q : m_K} (hB : B = 1 ∨ B = 8) (hr : relC B D S) (hf : f < 4) (ht : t < 6) (h1 : S.2.2.2 f t = true → Q (some (.int 1)) D) (h0 : S.2.2.2 f t = false → Q (some (.int 0)) D) : m_call L (d + 1) 15 [.ref B, .int (nI f), .int (nI t)] D Q := by
  obtain ⟨-, -, -, -, r5⟩ := hr
  have r6 := r5 t ht
  have hcl : (nI t).toNatClampNeg = t := nI_clamp (by omega)
  have hin : vp_in (nI t) 6 := vp_in_nI (by omega) (by omega)
  have hb := b_bit4 (fun f => S.2.2.2 f t) hf
  rcases hB with rfl | rfl
  all_goals
    refine v_in (tb' := t_X2_coughs) (rk' := 2) rfl rfl rfl ?_
    refine v_go rfl ?_
    refine v_sd rfl hin ?_
    rw [hcl, r6]
    refine v_go rfl ?_
    rw [hb]
    cases hg : S.2.2.2 f t with
    | true =>
      refine v_bF rfl (by decide) ?_
      refine v_go rfl ?_
      exact v_rt rfl (Or.inr rfl) (h1 hg)
    | false =>
      refine v_bT rfl (by decide) ?_
      refine v_go rfl ?_
      exact v_rt rfl (Or.inl rfl) (h0 hg)
theorem c_goesTo {L d B f t : Nat} {S : SH} {D : m_D} {Q : m_K} (hB : B = 1 ∨ B = 8) (hr : relC B D S) (hf : f < 4) (ht : t < 6) (h : Q (some (.int (oI (p_to S.2.2.2 f t)))) D) : m_call L (d + 2) 18 [.ref B, .int (nI f), .int (nI t)] D Q := by
  have hB0 := hB
  have e4 : nI f + 1 - (nI f + 1) / 4 * 4 = nI ((f + 1) % 4) := by
    rw [nI_1]
    exact pk_rem (d := 4) (by omega) (by omega) (by omega)
  have h4 : (f + 1) % 4 < 4 := Nat.mod_lt _ (by omega)
  unfold p_to at h
  rcases hB with rfl | rfl
  all_goals
    refine v_in (tb' := t_X2_goesTo) (rk' := 1) rfl rfl rfl ?_
    refine v_go rfl ?_
    refine v_ca rfl ?_
    refine c_coughs hB0 hr hf ht (fun hg => ?_) (fun hg => ?_)
    · rw [if_neg (by rw [hg]; decide)] at h
      refine v_go rfl ?_
      refine v_bT rfl (by decide) ?_
      refine v_go rfl ?_
      refine v_sd rfl (by decide) ?_
      rw [e4]
      refine v_go rfl ?_
      refine v_ca rfl ?_
      refine c_coughs hB0 hr h4 ht (fun hg2 => ?_) (fun hg2 => ?_)
      · rw [if_neg (by rw [hg2]; decide)] at h
        refine v_go rfl ?_
        refine v_bF rfl (by decide) ?_
        refine v_go rfl ?_
        exact v_rt rfl trivial h
      · rw [if_pos hg2] at h
        refine v_go rfl ?_
        refine v_bT rfl (by decide) ?_
        refine v_go rfl ?_
        exact v_rt rfl trivial h
    · rw [if_pos hg] at h
      refine v_go rfl ?_
      refine v_bF rfl (by decide) ?_
      refine v_go rfl ?_
      exact v_rt rfl trivial h
/-- Arrays.fill over one of the class's rows -/
theorem c_fill {L d a n : Nat} {v : Int32} {D : m_D} {Q : m_K} (ha : (a, n) ∈ [(19, 24), (20, 4), (7, 6), (14, 6), (25, 60), (27, 60), (29, 60), (31, 60)]) (h : ∀ D', m_fr [a] D D' → (∀ j, j < n → D' a j = v) → Q none D') : m_call L (d + 1) 167 [.ref a, .int v] D Q := by
  have key : ∀ (m i : Nat) (D1 : m_D), i + m = n → m_fr [a] D D1 → (∀ j, j < i → D1 a j = v) → m_V L d Q t_J7_fill_53178 0 (5, [some (.ref a), some (.int v), some (.int (nI i)), some (.int (nI n))], [], D1) := by
    intro m
    induction m with
    | zero =>
      intro i D1 hi hf hv
      have hi : i = n := by omega
      subst hi
      have hle : nI i ≤ nI i := Int32.le_refl _
      refine v_go rfl ?_
      refine v_bT rfl hle ?_
      exact v_rt rfl trivial (h D1 hf hv)
    | succ m ih =>
      intro i D1 hi hf hv
      have hn : n ≤ 60 := by
        simp only [List.mem_cons, Prod.mk.injEq, List.not_mem_nil, or_false] at ha
        omega
      refine v_go rfl ?_
      refine v_bF rfl (nI_ge (by omega) (by omega)) ?_
      refine v_go rfl ?_
      have hin : vp_in (nI i) n := vp_in_nI (by omega) (by omega)
      have hk := ih (i + 1) (m_up D1 a i v) (by omega) (hf.up (by simp)) (fun j hj => by
        by_cases e : j = i
        · rw [e, m_up_s]
        · rw [m_up_n e]
          exact hv j (by omega))
      have hcl : (nI i).toNatClampNeg = i := nI_clamp (by omega)
      rw [← nI_1] at hk
      simp only [List.mem_cons, Prod.mk.injEq, List.not_mem_nil, or_false] at ha
      rcases ha with ⟨rfl, rfl⟩ | ⟨rfl, rfl⟩ | ⟨rfl, rfl⟩ | ⟨rfl, rfl⟩ | ⟨rfl, rfl⟩ | ⟨rfl, rfl⟩ | ⟨rfl, rfl⟩ | ⟨rfl, rfl⟩
      all_goals
        refine v_sd rfl hin ?_
        rw [hcl]
        exact v_run 2 rfl hk
  have hk := key n 0 D (by omega) (m_fr.refl _ _) (fun j hj => absurd hj (by omega))
  simp only [List.mem_cons, Prod.mk.injEq, List.not_mem_nil, or_false] at ha
  rcases ha with ⟨rfl, rfl⟩ | ⟨rfl, rfl⟩ | ⟨rfl, rfl⟩ | ⟨rfl, rfl⟩ | ⟨rfl, rfl⟩ | ⟨rfl, rfl⟩ | ⟨rfl, rfl⟩ | ⟨rfl, rfl⟩
  all_goals
    refine v_in (tb' := t_J7_fill_53178) (rk' := 0) rfl rfl rfl ?_
    refine v_go rfl ?_
    refine v_sd rfl trivial ?_
    exact v_run 1 rfl hk
