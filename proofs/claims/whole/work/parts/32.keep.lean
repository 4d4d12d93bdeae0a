/-! ===== the reference's keeping and bringing back; startIn ===== -/
def relH (D : m_D) (S : SH) : Prop := (∀ l, l < S.1 → D 51 l = nI (S.2.2.1 0 l)) ∧ (∀ c, c < S.2.1 → D 52 c = nI (S.2.2.1 4 c)) ∧ ∀ f, f < 4 → D 53 f = nI (b_sum (fun t => S.2.2.2 f t) 6)
theorem c_keeps {L d : Nat} {S : SH} {D : m_D} {Q : m_K} (hr : relM D S) (ho : okS S) (h : ∀ D', m_fM [51, 52, 53] [] D D' → relH D' S → Q none D') : m_call L (d + 1) 129 [.ref 34] D Q := by
  have hn6 := ho.1
  have hk3 := ho.2.1
  have hs0 : ∀ l, l < S.1 → D 35 l = nI (S.2.2.1 0 l) := fun l hl => (hr.2.2.1 l hl).1
  have hs1 : ∀ c, c < S.2.1 → D 39 c = nI (S.2.2.1 4 c) := fun c hc => (hr.2.2.2.1 c hc).2.2
  have hs2 : ∀ f, f < 4 → D 40 f = nI (b_sum (fun t => S.2.2.2 f t) 6) := hr.2.2.2.2
  have k3 : ∀ (m i : Nat) (D1 : m_D), i + m = 4 → m_fM [51, 52, 53] [] D D1 → (∀ q, q < S.1 → D1 51 q = nI (S.2.2.1 0 q)) → (∀ q, q < S.2.1 → D1 52 q = nI (S.2.2.1 4 q)) → (∀ q, q < i → D1 53 q = nI (b_sum (fun t => S.2.2.2 q t) 6)) → m_V L d Q t_X5_keeps 0 (58, [some (.ref 34), some (.int (nI i))], [], D1) := by
    intro m
    induction m with
    | zero =>
      intro i D1 hi hf g0 g1 hp
      have hi : i = 4 := by omega
      subst hi
      refine v_go rfl ?_
      refine v_bT rfl (Int32.le_refl _) ?_
      exact v_rt rfl trivial (h D1 hf ⟨g0, g1, hp⟩)
    | succ m ih =>
      intro i D1 hi hf g0 g1 hp
      have hin : vp_in (nI i) 4 := vp_in_nI (by omega) (by omega)
      have hcl : (nI i).toNatClampNeg = i := nI_clamp (by omega)
      have es : D1 40 i = nI (b_sum (fun t => S.2.2.2 i t) 6) := by rw [hf.1 40 (by simp) (by decide)]; exact hs2 i (by omega)
      have ih := ih (i + 1) (m_up D1 53 i (nI (b_sum (fun t => S.2.2.2 i t) 6))) (by omega) (hf.up (by simp) (by decide)) g0 g1 (fun q hq => by
        by_cases e : q = i
        · rw [e, m_up_s]
        · rw [m_up_n e]
          exact hp q (by omega))
      rw [← nI_1] at ih
      refine v_go rfl ?_
      refine v_bF rfl (nI_ge (b := 4) (by omega) (by omega)) ?_
      refine v_go rfl ?_
      refine v_sd rfl hin ?_
      rw [hcl, es]
      refine v_sd rfl hin ?_
      rw [hcl]
      exact v_run 2 rfl ih
  have k2 : ∀ (m i : Nat) (D1 : m_D), i + m = S.2.1 → m_fM [51, 52, 53] [] D D1 → (∀ q, q < S.1 → D1 51 q = nI (S.2.2.1 0 q)) → (∀ q, q < i → D1 52 q = nI (S.2.2.1 4 q)) → m_V L d Q t_X5_keeps 0 (30, [some (.ref 34), some (.int (nI i))], [], D1) := by
    intro m
    induction m with
    | zero =>
      intro i D1 hi hf g0 hp
      have hi : i = S.2.1 := by omega
      subst hi
      have rb : D1 34 2 = nI (S.2.1) := by rw [hf.2 2 (by simp)]; exact hr.2.1
      refine v_go rfl ?_
      rw [rb]
      refine v_bT rfl (Int32.le_refl _) ?_
      exact v_run 2 rfl (k3 (4) 0 D1 (by omega) hf g0 hp (fun q hq => absurd hq (by omega)))
    | succ m ih =>
      intro i D1 hi hf g0 hp
      have rb : D1 34 2 = nI (S.2.1) := by rw [hf.2 2 (by simp)]; exact hr.2.1
      have hin : vp_in (nI i) 3 := vp_in_nI (by omega) (by omega)
      have hcl : (nI i).toNatClampNeg = i := nI_clamp (by omega)
      have es : D1 39 i = nI (S.2.2.1 4 i) := by rw [hf.1 39 (by simp) (by decide)]; exact hs1 i (by omega)
      have ih := ih (i + 1) (m_up D1 52 i (nI (S.2.2.1 4 i))) (by omega) (hf.up (by simp) (by decide)) g0 (fun q hq => by
        by_cases e : q = i
        · rw [e, m_up_s]
        · rw [m_up_n e]
          exact hp q (by omega))
      rw [← nI_1] at ih
      refine v_go rfl ?_
      rw [rb]
      refine v_bF rfl (nI_ge (b := S.2.1) (by omega) (by omega)) ?_
      refine v_go rfl ?_
      refine v_sd rfl hin ?_
      rw [hcl, es]
      refine v_sd rfl hin ?_
      rw [hcl]
      exact v_run 2 rfl ih
  have k1 : ∀ (m i : Nat) (D1 : m_D), i + m = S.1 → m_fM [51, 52, 53] [] D D1 → (∀ q, q < i → D1 51 q = nI (S.2.2.1 0 q)) → m_V L d Q t_X5_keeps 0 (2, [some (.ref 34), some (.int (nI i))], [], D1) := by
    intro m
    induction m with
    | zero =>
      intro i D1 hi hf hp
      have hi : i = S.1 := by omega
      subst hi
      have rb : D1 34 1 = nI (S.1) := by rw [hf.2 1 (by simp)]; exact hr.1
      refine v_go rfl ?_
      rw [rb]
      refine v_bT rfl (Int32.le_refl _) ?_
      exact v_run 2 rfl (k2 (S.2.1) 0 D1 (by omega) hf hp (fun q hq => absurd hq (by omega)))
    | succ m ih =>
      intro i D1 hi hf hp
      have rb : D1 34 1 = nI (S.1) := by rw [hf.2 1 (by simp)]; exact hr.1
      have hin : vp_in (nI i) 6 := vp_in_nI (by omega) (by omega)
      have hcl : (nI i).toNatClampNeg = i := nI_clamp (by omega)
      have es : D1 35 i = nI (S.2.2.1 0 i) := by rw [hf.1 35 (by simp) (by decide)]; exact hs0 i (by omega)
      have ih := ih (i + 1) (m_up D1 51 i (nI (S.2.2.1 0 i))) (by omega) (hf.up (by simp) (by decide)) (fun q hq => by
        by_cases e : q = i
        · rw [e, m_up_s]
        · rw [m_up_n e]
          exact hp q (by omega))
      rw [← nI_1] at ih
      refine v_go rfl ?_
      rw [rb]
      refine v_bF rfl (nI_ge (b := S.1) (by omega) (by omega)) ?_
      refine v_go rfl ?_
      refine v_sd rfl hin ?_
      rw [hcl, es]
      refine v_sd rfl hin ?_
      rw [hcl]
      exact v_run 2 rfl ih
  refine v_in (tb' := t_X5_keeps) (rk' := 0) rfl rfl rfl ?_
  exact v_run 2 rfl (k1 (S.1) 0 D (by omega) (m_fM.refl _ _ _) (fun q hq => absurd hq (by omega)))
theorem c_brings {L d : Nat} {S S1 : SH} {D : m_D} {Q : m_K} (hr1 : relM D S1) (ho : okS S) (e1 : S1.1 = S.1) (e2 : S1.2.1 = S.2.1) (eT : ∀ i c, i = 1 ∨ i = 2 ∨ i = 3 → S1.2.2.1 i c = S.2.2.1 i c) (hh : relH D S) (h : ∀ D', m_fM [35, 39, 40] [] D D' → relM D' S → Q none D') : m_call L (d + 1) 130 [.ref 34] D Q := by
  have hn6 := ho.1
  have hk3 := ho.2.1
  obtain ⟨hs0, hs1, hs2⟩ := hh
  have hr : D 34 1 = nI S.1 ∧ D 34 2 = nI S.2.1 ∧ True := ⟨by rw [← e1]; exact hr1.1, by rw [← e2]; exact hr1.2.1, trivial⟩
  have k3 : ∀ (m i : Nat) (D1 : m_D), i + m = 4 → m_fM [35, 39, 40] [] D D1 → (∀ q, q < S.1 → D1 35 q = nI (S.2.2.1 0 q)) → (∀ q, q < S.2.1 → D1 39 q = nI (S.2.2.1 4 q)) → (∀ q, q < i → D1 40 q = nI (b_sum (fun t => S.2.2.2 q t) 6)) → m_V L d Q t_X5_bringsBack 0 (58, [some (.ref 34), some (.int (nI i))], [], D1) := by
    intro m
    induction m with
    | zero =>
      intro i D1 hi hf g0 g1 hp
      have hi : i = 4 := by omega
      subst hi
      refine v_go rfl ?_
      refine v_bT rfl (Int32.le_refl _) ?_
      exact v_rt rfl trivial (h D1 hf ⟨by rw [hf.2 1 (by simp)]; exact hr.1, by rw [hf.2 2 (by simp)]; exact hr.2.1, fun l hl => ⟨g0 l hl, by rw [hf.1 36 (by simp) (by decide), ← eT 1 l (by omega)]; exact (hr1.2.2.1 l (by rw [e1]; exact hl)).2⟩, fun c hc => ⟨by rw [hf.1 37 (by simp) (by decide), ← eT 2 c (by omega)]; exact (hr1.2.2.2.1 c (by rw [e2]; exact hc)).1, by rw [hf.1 38 (by simp) (by decide), ← eT 3 c (by omega)]; exact (hr1.2.2.2.1 c (by rw [e2]; exact hc)).2.1, g1 c hc⟩, hp⟩)
    | succ m ih =>
      intro i D1 hi hf g0 g1 hp
      have hin : vp_in (nI i) 4 := vp_in_nI (by omega) (by omega)
      have hcl : (nI i).toNatClampNeg = i := nI_clamp (by omega)
      have es : D1 53 i = nI (b_sum (fun t => S.2.2.2 i t) 6) := by rw [hf.1 53 (by simp) (by decide)]; exact hs2 i (by omega)
      have ih := ih (i + 1) (m_up D1 40 i (nI (b_sum (fun t => S.2.2.2 i t) 6))) (by omega) (hf.up (by simp) (by decide)) g0 g1 (fun q hq => by
        by_cases e : q = i
        · rw [e, m_up_s]
        · rw [m_up_n e]
          exact hp q (by omega))
      rw [← nI_1] at ih
      refine v_go rfl ?_
      refine v_bF rfl (nI_ge (b := 4) (by omega) (by omega)) ?_
      refine v_go rfl ?_
      refine v_sd rfl hin ?_
      rw [hcl, es]
      refine v_sd rfl hin ?_
      rw [hcl]
      exact v_run 2 rfl ih
  have k2 : ∀ (m i : Nat) (D1 : m_D), i + m = S.2.1 → m_fM [35, 39, 40] [] D D1 → (∀ q, q < S.1 → D1 35 q = nI (S.2.2.1 0 q)) → (∀ q, q < i → D1 39 q = nI (S.2.2.1 4 q)) → m_V L d Q t_X5_bringsBack 0 (30, [some (.ref 34), some (.int (nI i))], [], D1) := by
    intro m
    induction m with
    | zero =>
      intro i D1 hi hf g0 hp
      have hi : i = S.2.1 := by omega
      subst hi
      have rb : D1 34 2 = nI (S.2.1) := by rw [hf.2 2 (by simp)]; exact hr.2.1
      refine v_go rfl ?_
      rw [rb]
      refine v_bT rfl (Int32.le_refl _) ?_
      exact v_run 2 rfl (k3 (4) 0 D1 (by omega) hf g0 hp (fun q hq => absurd hq (by omega)))
    | succ m ih =>
      intro i D1 hi hf g0 hp
      have rb : D1 34 2 = nI (S.2.1) := by rw [hf.2 2 (by simp)]; exact hr.2.1
      have hin : vp_in (nI i) 3 := vp_in_nI (by omega) (by omega)
      have hcl : (nI i).toNatClampNeg = i := nI_clamp (by omega)
      have es : D1 52 i = nI (S.2.2.1 4 i) := by rw [hf.1 52 (by simp) (by decide)]; exact hs1 i (by omega)
      have ih := ih (i + 1) (m_up D1 39 i (nI (S.2.2.1 4 i))) (by omega) (hf.up (by simp) (by decide)) g0 (fun q hq => by
        by_cases e : q = i
        · rw [e, m_up_s]
        · rw [m_up_n e]
          exact hp q (by omega))
      rw [← nI_1] at ih
      refine v_go rfl ?_
      rw [rb]
      refine v_bF rfl (nI_ge (b := S.2.1) (by omega) (by omega)) ?_
      refine v_go rfl ?_
      refine v_sd rfl hin ?_
      rw [hcl, es]
      refine v_sd rfl hin ?_
      rw [hcl]
      exact v_run 2 rfl ih
  have k1 : ∀ (m i : Nat) (D1 : m_D), i + m = S.1 → m_fM [35, 39, 40] [] D D1 → (∀ q, q < i → D1 35 q = nI (S.2.2.1 0 q)) → m_V L d Q t_X5_bringsBack 0 (2, [some (.ref 34), some (.int (nI i))], [], D1) := by
    intro m
    induction m with
    | zero =>
      intro i D1 hi hf hp
      have hi : i = S.1 := by omega
      subst hi
      have rb : D1 34 1 = nI (S.1) := by rw [hf.2 1 (by simp)]; exact hr.1
      refine v_go rfl ?_
      rw [rb]
      refine v_bT rfl (Int32.le_refl _) ?_
      exact v_run 2 rfl (k2 (S.2.1) 0 D1 (by omega) hf hp (fun q hq => absurd hq (by omega)))
    | succ m ih =>
      intro i D1 hi hf hp
      have rb : D1 34 1 = nI (S.1) := by rw [hf.2 1 (by simp)]; exact hr.1
      have hin : vp_in (nI i) 6 := vp_in_nI (by omega) (by omega)
      have hcl : (nI i).toNatClampNeg = i := nI_clamp (by omega)
      have es : D1 51 i = nI (S.2.2.1 0 i) := by rw [hf.1 51 (by simp) (by decide)]; exact hs0 i (by omega)
      have ih := ih (i + 1) (m_up D1 35 i (nI (S.2.2.1 0 i))) (by omega) (hf.up (by simp) (by decide)) (fun q hq => by
        by_cases e : q = i
        · rw [e, m_up_s]
        · rw [m_up_n e]
          exact hp q (by omega))
      rw [← nI_1] at ih
      refine v_go rfl ?_
      rw [rb]
      refine v_bF rfl (nI_ge (b := S.1) (by omega) (by omega)) ?_
      refine v_go rfl ?_
      refine v_sd rfl hin ?_
      rw [hcl, es]
      refine v_sd rfl hin ?_
      rw [hcl]
      exact v_run 2 rfl ih
  refine v_in (tb' := t_X5_bringsBack) (rk' := 0) rfl rfl rfl ?_
  exact v_run 2 rfl (k1 (S.1) 0 D (by omega) (m_fM.refl _ _ _) (fun q hq => absurd hq (by omega)))
theorem c_startInM {L d b c : Nat} {S : SH} {D : m_D} {Q : m_K} (hr : relM D S) (ho : okS S) (hn : S.1 ≠ 0) (hb : b < 1000) (hc : c < S.2.1) (h : Q (some (.int (nI (p_dig S b c)))) D) : m_call L (d + 1) 134 [.ref 34, .int (nI b), .int (nI c)] D Q := by
  have hk3 := ho.2.1
  have hn6 := ho.1
  have r1 : D 34 1 = nI S.1 := hr.1
  have r2 : D 34 2 = nI S.2.1 := hr.2.1
  have hne : ¬ nI S.1 = 0 := nI_ne0 (by omega) (by omega)
  have key : ∀ (m i : Nat), i + m = S.2.1 - 1 - c → m_V L d Q t_X5_startIn 1 (10, [some (.ref 34), some (.int (nI b)), some (.int (nI c)), some (.int (nI (b / S.1 ^ i))), some (.int (nI (S.2.1 - 1 - i)))], [], D) := by
    intro m
    induction m with
    | zero =>
      intro i hi
      have hi : i = S.2.1 - 1 - c := by omega
      have hq : b / S.1 ^ i < 1000 := Nat.lt_of_le_of_lt (Nat.div_le_self _ _) hb
      refine v_go rfl ?_
      refine v_bT rfl (nI_le (by omega) (by omega)) ?_
      refine v_go rfl ?_
      rw [r1]
      refine v_sd rfl hne ?_
      refine v_rt rfl trivial ?_
      rw [pk_rem (by omega) (by omega) (by omega), hi]
      exact h
    | succ m ih =>
      intro i hi
      have hq : b / S.1 ^ i < 1000 := Nat.lt_of_le_of_lt (Nat.div_le_self _ _) hb
      have ih := ih (i + 1) (by omega)
      have e1 : nI (S.2.1 - 1 - i) + -1 = nI (S.2.1 - 1 - (i + 1)) := by
        rw [nI_m1, nI_p (by omega)]
        congr 1
      have e2 : nI (b / S.1 ^ i) / nI S.1 = nI (b / S.1 ^ (i + 1)) := by
        rw [pk_div (by omega) (by omega) (by omega), Nat.div_div_eq_div_mul, ← Nat.pow_succ]
      rw [← e1, ← e2] at ih
      refine v_go rfl ?_
      refine v_bF rfl (fun z => absurd ((nI_leI (by omega) (by omega)).mp z) (by omega)) ?_
      refine v_go rfl ?_
      rw [r1]
      refine v_sd rfl hne ?_
      exact v_run 3 rfl ih
  have hk := key (S.2.1 - 1 - c) 0 (by omega)
  rw [Nat.pow_zero, Nat.div_one, Nat.sub_zero, ← nI_p (by omega), ← r2] at hk
  refine v_in (tb' := t_X5_startIn) (rk' := 1) rfl rfl rfl ?_
  exact v_run 7 rfl hk
theorem c_startInC {L d b c : Nat} {S : SH} {D : m_D} {Q : m_K} (hr1 : relC 1 D S) (hr : ∃ S1, relC 8 D S1 ∧ okS S1 ∧ S1.1 = S.1 ∧ S1.2.1 = S.2.1 ∧ ∀ b, begS S1 b = begS S b) (ho : okS S) (hn : S.1 ≠ 0) (hb : b < 1000) (hc : c < S.2.1) (h : ∀ D', m_fr [13] D D' → Q (some (.int (nI (p_dig S b c)))) D') : m_call L (d + 2) 46 [.ref 0, .int (nI b), .int (nI c)] D Q := by
  obtain ⟨S1, hr, ho1, e1, e2, eb⟩ := hr
  have hk3 := ho.2.1
  have hx : vp_in (nI c) S.2.1 := vp_in_nI hc (by omega)
  have hin : vp_in (nI c) 3 := vp_in_nI (by omega) (by omega)
  have hcl : (nI c).toNatClampNeg = c := nI_clamp (by omega)
  refine v_in (tb' := t_X4_startIn) (rk' := 1) rfl rfl rfl ?_
  refine v_go rfl ?_
  refine v_bF rfl (nI_m9 (by omega)) ?_
  refine v_go rfl ?_
  refine v_ca rfl ?_
  refine c_isCrier hr1.2.1 (by omega) (fun _ => ?_) (fun z => absurd hx z)
  refine v_go rfl ?_
  refine v_bT rfl (by decide) ?_
  refine v_go rfl ?_
  refine v_ca rfl ?_
  refine c_beginBy hr ho1 (by rw [e1]; exact hn) hb (fun D2 hf2 hr2 => ?_)
  rw [eb] at hr2
  have r13 : D2 13 c = nI (p_dig S b c) := (hr2.2.2.2.1 c hc).2.2
  refine v_go rfl ?_
  refine v_sd rfl hin ?_
  rw [hcl, r13]
  exact v_rt rfl trivial (h D2 hf2)
/-- a shower in the trial that is this one but for who begins where -/
def trB (S : SH) (D : m_D) : Prop := ∃ S1, relC 8 D S1 ∧ okS S1 ∧ S1.1 = S.1 ∧ S1.2.1 = S.2.1 ∧ ∀ b, begS S1 b = begS S b
theorem trB_0 {S : SH} {D : m_D} (h : relC 8 D S) (ho : okS S) : trB S D := ⟨S, h, ho, rfl, rfl, fun _ => rfl⟩
theorem trB_b {S : SH} {D : m_D} {b : Nat} (h : relC 8 D (begS S b)) (ho : okS S) (hn : S.1 ≠ 0) : trB S D := ⟨begS S b, h, okS_beg ho hn, rfl, rfl, fun a => begS_begS S b a⟩
theorem trB_keep {S : SH} {D D' : m_D} (h : trB S D) (hf : ∀ i, i < 7 → D' (8 + i) = D (8 + i)) : trB S D' := by
  obtain ⟨S1, h1, h2⟩ := h
  exact ⟨S1, relC_c hf h1, h2⟩
theorem c_beginT {L d b : Nat} {S : SH} {D : m_D} {Q : m_K} (ht : trB S D) (hn : S.1 ≠ 0) (hb : b < 1000) (h : ∀ D', m_fr [13] D D' → relC 8 D' (begS S b) → Q none D') : m_call L (d + 1) 20 [.ref 8, .int (nI b)] D Q := by
  obtain ⟨S1, hr, ho1, e1, e2, eb⟩ := ht
  refine c_beginBy hr ho1 (by rw [e1]; exact hn) hb (fun D2 hf2 hr2 => ?_)
  rw [eb] at hr2
  exact h D2 hf2 hr2
/-- the same in the reference -/
def trM (S : SH) (D : m_D) : Prop := ∃ S1, relM D S1 ∧ okS S1 ∧ S1.1 = S.1 ∧ S1.2.1 = S.2.1 ∧ (∀ b, begS S1 b = begS S b) ∧ ∀ i c, i = 1 ∨ i = 2 ∨ i = 3 → S1.2.2.1 i c = S.2.2.1 i c
theorem trM_0 {S : SH} {D : m_D} (h : relM D S) (ho : okS S) : trM S D := ⟨S, h, ho, rfl, rfl, fun _ => rfl, fun _ _ _ => rfl⟩
theorem trM_b {S : SH} {D : m_D} {b : Nat} (h : relM D (begS S b)) (ho : okS S) (hn : S.1 ≠ 0) : trM S D := ⟨begS S b, h, okS_beg ho hn, rfl, rfl, fun a => begS_begS S b a, fun i c hi => if_neg (by omega)⟩
theorem c_beginM {L d b : Nat} {S : SH} {D : m_D} {Q : m_K} (ht : trM S D) (hn : S.1 ≠ 0) (hb : b < 1000) (h : ∀ D', m_fM [39] [] D D' → relM D' (begS S b) → Q none D') : m_call L (d + 1) 133 [.ref 34, .int (nI b)] D Q := by
  obtain ⟨S1, hr, ho1, e1, e2, eb, -⟩ := ht
  refine c_begins hr ho1 (by rw [e1]; exact hn) hb (fun D2 hf2 hr2 => ?_)
  rw [eb] at hr2
  exact h D2 hf2 hr2
theorem c_bringT {L d : Nat} {S : SH} {D : m_D} {Q : m_K} (ht : trM S D) (ho : okS S) (hh : relH D S) (h : ∀ D', m_fM [35, 39, 40] [] D D' → relM D' S → Q none D') : m_call L (d + 1) 130 [.ref 34] D Q := by
  obtain ⟨S1, hr, ho1, e1, e2, eb, eT⟩ := ht
  exact c_brings hr ho e1 e2 eT hh h
theorem relH_keep {Z F : List Nat} {S : SH} {D D' : m_D} (h : relH D S) (hf : m_fM Z F D D') (hz : ∀ a, a ∈ [51, 52, 53] → a ∉ Z) : relH D' S := by
  obtain ⟨h1, h2, h3⟩ := h
  have e : ∀ a, a ∈ [51, 52, 53] → D' a = D a := fun a ha => hf.1 a (hz a ha) (by
    simp only [List.mem_cons, List.not_mem_nil, or_false] at ha
    omega)
  exact ⟨fun l hl => by rw [e 51 (by simp)]; exact h1 l hl, fun c hc => by rw [e 52 (by simp)]; exact h2 c hc, fun f hf => by rw [e 53 (by simp)]; exact h3 f hf⟩
theorem trM_keep {Z F : List Nat} {S : SH} {D D' : m_D} (h : trM S D) (hf : m_fM Z F D D') (hZ : ∀ a, a ∈ [35, 36, 37, 38, 39, 40] → a ∉ Z) (hF : 1 ∉ F ∧ 2 ∉ F) : trM S D' := by
  obtain ⟨S1, h1, h2⟩ := h
  exact ⟨S1, relM_keep hf hZ hF h1, h2⟩
