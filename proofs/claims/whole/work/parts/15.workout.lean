/-- the lines that fall by a crier, as a set -/
def p_lby (S : SH) (c : Nat) : Nat → Int32
  | 0 => 0
  | l + 1 => p_lby S c l ||| (if p_by S l = some c then 1 <<< (nI l &&& 31) else 0)
theorem relC_keep {B : Nat} {Z : List Nat} {D D' : m_D} {S : SH} (hf : m_fr Z D D') (hZ : ∀ i, i < 7 → B + i ∉ Z) (h : relC B D S) : relC B D' S := by
  have e : ∀ i, i < 7 → D' (B + i) = D (B + i) := fun i hi => hf _ (hZ i hi)
  obtain ⟨h1, h2, h3, h4, h5⟩ := h
  have e0 : D' B = D B := e 0 (by omega)
  refine ⟨by rw [e0]; exact h1, by rw [e0]; exact h2, fun l hl => ?_, fun c hc => ?_, fun t ht => ?_⟩
  · rw [e 1 (by omega), e 2 (by omega)]
    exact h3 l hl
  · rw [e 3 (by omega), e 4 (by omega), e 5 (by omega)]
    exact h4 c hc
  · rw [e 6 (by omega)]
    exact h5 t ht
abbrev z_F : List Nat := [15, 16, 17, 18, 19, 20]
theorem z_F_B {B : Nat} (hB : B = 1 ∨ B = 8) : ∀ i, i < 7 → B + i ∉ z_F := by
  intro i hi
  simp only [z_F, List.mem_cons, List.not_mem_nil, or_false]
  omega
theorem c_workOut {L d B : Nat} {S : SH} {D : m_D} {Q : m_K} (hB : B = 1 ∨ B = 8) (hr : relC B D S) (ho : okS S) (h : ∀ D', m_fr z_F D D' → relF S S.1 D' → Q none D') : m_call L (d + 4) 0 [.ref 15, .ref B] D Q := by
  have hB0 := hB
  have key : ∀ (m l : Nat) (D1 : m_D), l + m = S.1 → m_fr z_F D D1 → relF S l D1 → m_V L (d + 3) Q t_X0_workOut 0 (33, [some (.ref 15), some (.ref B), some (.int (nI l))], [], D1) := by
    intro m
    induction m with
    | zero =>
      intro l D1 hm hf hF
      have hm : l = S.1 := by omega
      subst hm
      have hr1 := relC_keep hf (z_F_B hB) hr
      have hn : D1 B 0 = nI S.1 := hr1.1
      rcases hB with rfl | rfl
      all_goals
        refine v_go rfl ?_
        rw [hn]
        refine v_bT rfl (Int32.le_refl _) ?_
        exact v_rt rfl trivial (h D1 hf hF)
    | succ m ih =>
      intro l D1 hm hf hF
      have hr1 := relC_keep hf (z_F_B hB) hr
      have hn : D1 B 0 = nI S.1 := hr1.1
      have hn6 := ho.1
      rcases hB with rfl | rfl
      all_goals
        refine v_go rfl ?_
        rw [hn]
        refine v_bF rfl (nI_ge (by omega) (by omega)) ?_
        refine v_go rfl ?_
        refine v_ca rfl ?_
        refine c_findReader hB0 hr1 ho (by omega) ?_
        refine v_go rfl ?_
        refine v_ca rfl ?_
        have hf2 := (hf.up (i := 16) (j := l) (v := oI (p_hour S l)) (by simp)).up (i := 17) (j := l) (v := oI (p_by S l)) (by simp)
        refine c_bringDown hB0 hr1 ho (by omega) ?_ ?_ ?_ (fun D2 hg hF2 => ?_)
        · obtain ⟨f1, f2, f3, f4, f5, f6⟩ := hF
          refine ⟨fun i hi => ?_, f2, f3, f4, f5, f6⟩
          show upd (D1 16) l _ i = _ ∧ upd (D1 17) l _ i = _ ∧ D1 18 i = _
          rw [pk_un (by omega), pk_un (by omega)]
          exact f1 i hi
        · exact pk_us
        · exact pk_us
        · have hk := ih (l + 1) D2 (by omega) (hf2.trans (hg.sub (by simp))) hF2
          rw [← nI_1] at hk
          exact v_run 2 rfl hk
  rcases hB with rfl | rfl
  all_goals
    refine v_in (tb' := t_X0_workOut) (rk' := 0) rfl rfl rfl ?_
    refine v_go rfl ?_
    refine v_ca rfl ?_
    refine c_fill (n := 24) (by simp) (fun D1 hf1 h19 => ?_)
    refine v_go rfl ?_
    refine v_ca rfl ?_
    refine c_fill (n := 4) (by simp) (fun D2 hf2 h20 => ?_)
    have hfa : m_fr z_F D (m_up (m_up (m_up D 15 5 0) 15 6 0) 15 7 0) := (((m_fr.refl _ _).up (by simp)).up (by simp)).up (by simp)
    have hk := key S.1 0 D2 (by omega) ((hfa.trans (hf1.sub (by simp))).trans (hf2.sub (by simp))) ?_
    · exact v_run 2 rfl hk
    · have e15 : D2 15 = m_up (m_up (m_up D 15 5 0) 15 6 0) 15 7 0 15 := (hf2 15 (by simp)).trans (hf1 15 (by simp))
      have e19 : D2 19 = D1 19 := hf2 19 (by simp)
      refine ⟨fun i hi => absurd hi (by omega), fun f t hf ht => ?_, fun f hf => h20 f hf, ?_, ?_, ?_⟩
      · rw [e19]
        exact h19 _ (by omega)
      · rw [e15]
        rfl
      · rw [e15]
        rfl
      · rw [e15]
        rfl
theorem c_linesBy {L d c n : Nat} {S : SH} {D : m_D} {Q : m_K} (hn : n ≤ 6) (hF : ∀ i, i < n → D 17 i = oI (p_by S i)) (hc : c < 3) (hk : S.2.1 ≤ 3) (h : Q (some (.int (p_lby S c n))) D) : m_call L (d + 1) 3 [.ref 15, .int (nI c), .int (nI n)] D Q := by
  have key : ∀ (m l : Nat), l + m = n → m_V L d Q t_X0_linesBy 1 (5, [some (.ref 15), some (.int (nI c)), some (.int (nI n)), some (.int (p_lby S c l)), some (.int (nI l))], [], D) := by
    intro m
    induction m with
    | zero =>
      intro l hm
      have hm : l = n := by omega
      subst hm
      refine v_go rfl ?_
      refine v_bT rfl (Int32.le_refl _) ?_
      refine v_go rfl ?_
      exact v_rt rfl trivial h
    | succ m ih =>
      intro l hm
      have hcl : (nI l).toNatClampNeg = l := nI_clamp (by omega)
      have hin : vp_in (nI l) 6 := vp_in_nI (by omega) (by omega)
      have hk := ih (l + 1) (by omega)
      rw [← nI_1] at hk
      have e : p_lby S c (l + 1) = p_lby S c l ||| (if p_by S l = some c then 1 <<< (nI l &&& 31) else 0) := rfl
      rw [e] at hk
      refine v_go rfl ?_
      refine v_bF rfl (nI_ge (by omega) (by omega)) ?_
      refine v_go rfl ?_
      refine v_sd rfl hin ?_
      rw [hcl, hF l (by omega)]
      refine v_go rfl ?_
      by_cases hb : p_by S l = some c
      · rw [if_pos hb] at hk
        refine v_bF rfl (by rw [hb]; exact fun z => z rfl) ?_
        exact v_run 8 rfl hk
      · rw [if_neg hb] at hk
        refine v_bT rfl ?_ ?_
        · cases hw : p_by S l with
          | none => exact fun z => nI_m9 (by omega) z.symm
          | some w =>
            intro z
            have hw3 := ((p_fr_ok S l S.2.1).2 w hw).1
            have := (nI_eq (by omega) (by omega)).mp z
            exact hb (by rw [hw, this])
        · exact v_run 5 rfl hk
  refine v_in (tb' := t_X0_linesBy) (rk' := 1) rfl rfl rfl ?_
  exact v_run 4 rfl (key n 0 (by omega))
theorem c_wetOfAll {L d : Nat} {D : m_D} {Q : m_K} (h : Q (some (.int (0 + D 20 0 + D 20 1 + D 20 2 + D 20 3))) D) : m_call L (d + 1) 4 [.ref 15] D Q := by
  refine v_in (tb' := t_X0_wetOfAll) (rk' := 1) rfl rfl rfl ?_
  refine v_go rfl ?_
  refine v_bF rfl (by decide) ?_
  refine v_go rfl ?_
  refine v_sd rfl (vp_in_nI (n := 0) (by omega) (by omega)) ?_
  refine v_go rfl ?_
  refine v_bF rfl (by decide) ?_
  refine v_go rfl ?_
  refine v_sd rfl (vp_in_nI (n := 1) (by omega) (by omega)) ?_
  refine v_go rfl ?_
  refine v_bF rfl (by decide) ?_
  refine v_go rfl ?_
  refine v_sd rfl (vp_in_nI (n := 2) (by omega) (by omega)) ?_
  refine v_go rfl ?_
  refine v_bF rfl (by decide) ?_
  refine v_go rfl ?_
  refine v_sd rfl (vp_in_nI (n := 3) (by omega) (by omega)) ?_
  refine v_go rfl ?_
  refine v_bT rfl (by decide) ?_
  refine v_go rfl ?_
  exact v_rt rfl trivial h
