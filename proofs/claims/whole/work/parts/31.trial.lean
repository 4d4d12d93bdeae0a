/-! ===== trials: become, beginnings; the reference's keeping ===== -/
theorem cpy0 {f g : Nat → Int32} {n j : Nat} (h : j < n) : va_cpy f g 0 0 n j = f j := by
  unfold va_cpy
  rw [if_pos (by omega), Nat.zero_add, Nat.sub_zero]
abbrev z_T : List Nat := [8, 9, 10, 11, 12, 13, 14]
theorem c_become {L d : Nat} {S : SH} {D : m_D} {Q : m_K} (hr : relC 1 D S) (ho : okS S) (h : ∀ D', m_fr z_T D D' → relC 8 D' S → Q none D') : m_call L (d + 2) 12 [.ref 8, .ref 1] D Q := by
  have c6 : ¬ (0 : Int32) < 0 ∧ ¬ (0 : Int32) < 0 ∧ ¬ (6 : Int32) < 0 ∧ (0 : Int32).toNatClampNeg + (6 : Int32).toNatClampNeg ≤ 6 ∧ (0 : Int32).toNatClampNeg + (6 : Int32).toNatClampNeg ≤ 6 := by decide
  have c3 : ¬ (0 : Int32) < 0 ∧ ¬ (0 : Int32) < 0 ∧ ¬ (3 : Int32) < 0 ∧ (0 : Int32).toNatClampNeg + (3 : Int32).toNatClampNeg ≤ 3 ∧ (0 : Int32).toNatClampNeg + (3 : Int32).toNatClampNeg ≤ 3 := by decide
  refine v_in (tb' := t_X2_become) (rk' := 0) rfl rfl rfl ?_
  refine v_go rfl (v_sd rfl c6 ?_)
  refine v_go rfl (v_sd rfl c6 ?_)
  refine v_go rfl (v_sd rfl c3 ?_)
  refine v_go rfl (v_sd rfl c3 ?_)
  refine v_go rfl (v_sd rfl c3 ?_)
  refine v_go rfl (v_sd rfl c6 ?_)
  obtain ⟨h1, h2, h3, h4, h5⟩ := hr
  obtain ⟨o1, o2, -, -⟩ := ho
  refine v_rt rfl trivial (h _ (fun a ha => ?_) ⟨h1, h2, fun l hl => ⟨?_, ?_⟩, fun c hc => ⟨?_, ?_, ?_⟩, fun t ht => ?_⟩)
  · simp only [z_T, List.mem_cons, List.not_mem_nil, or_false, not_or] at ha
    obtain ⟨a8, a9, a10, a11, a12, a13, a14⟩ := ha
    rw [m_cp_ne a14, m_cp_ne a13, m_cp_ne a12, m_cp_ne a11, m_cp_ne a10, m_cp_ne a9, m_up_ne a8, m_up_ne a8]
  · exact (cpy0 (f := D 2) (n := 6) (by omega)).trans (h3 l hl).1
  · exact (cpy0 (f := D 3) (n := 6) (by omega)).trans (h3 l hl).2
  · exact (cpy0 (f := D 4) (n := 3) (by omega)).trans (h4 c hc).1
  · exact (cpy0 (f := D 5) (n := 3) (by omega)).trans (h4 c hc).2.1
  · exact (cpy0 (f := D 6) (n := 3) (by omega)).trans (h4 c hc).2.2
  · exact (cpy0 (f := D 7) (n := 6) (by omega)).trans (h5 t ht)
theorem InvC_T {Z : ZS} {D D' : m_D} (h : InvC Z D) (hf : m_fr z_T D D') : InvC Z D' := InvC_keep h (fun a ha => hf a (by
  simp only [z_T, List.mem_cons, List.not_mem_nil, or_false]
  omega))
abbrev z_FT : List Nat := [8, 9, 10, 11, 12, 13, 14, 15, 16, 17, 18, 19, 20]
theorem InvC_FT {Z : ZS} {D D' : m_D} (h : InvC Z D) (hf : m_fr z_FT D D') : InvC Z D' := InvC_keep h (fun a ha => hf a (by
  simp only [z_FT, List.mem_cons, List.not_mem_nil, or_false]
  omega))
theorem frC_FT {D D' : m_D} (hf : m_fr z_FT D D') : frC D D' := frC.of hf (by decide)
theorem fT {D D' : m_D} (hf : m_fr z_T D D') : m_fr z_FT D D' := hf.sub (by simp)
theorem fF {D D' : m_D} (hf : m_fr z_F D D') : m_fr z_FT D D' := hf.sub (by simp)
/-- how many beginnings -/
def p_nb (S : SH) : Nat := S.1 ^ S.2.1
theorem p_nb_lt {S : SH} (ho : okS S) : p_nb S ≤ 216 := by
  have h1 : S.1 ^ S.2.1 ≤ 6 ^ S.2.1 := Nat.pow_le_pow_left ho.1 _
  have h2 : 6 ^ S.2.1 ≤ 6 ^ 3 := Nat.pow_le_pow_right (by omega) ho.2.1
  exact Nat.le_trans h1 h2
theorem p_pow_lt {S : SH} (ho : okS S) {c : Nat} (hc : c ≤ 3) : S.1 ^ c ≤ 216 := by
  have h1 : S.1 ^ c ≤ 6 ^ c := Nat.pow_le_pow_left ho.1 _
  have h2 : 6 ^ c ≤ 6 ^ 3 := Nat.pow_le_pow_right (by omega) hc
  exact Nat.le_trans h1 h2
theorem c_beginnings {L d : Nat} {S : SH} {D : m_D} {Q : m_K} (hr : relC 1 D S) (ho : okS S) (h : Q (some (.int (nI (p_nb S)))) D) : m_call L (d + 1) 19 [.ref 1] D Q := by
  have r1 : D 1 0 = nI S.1 := hr.1
  have r2 : D 1 1 = nI S.2.1 := hr.2.1
  have hk3 := ho.2.1
  have key : ∀ (m c : Nat), c + m = S.2.1 → m_V L d Q t_X2_beginnings 1 (4, [some (.ref 1), some (.int (nI (S.1 ^ c))), some (.int (nI c))], [], D) := by
    intro m
    induction m with
    | zero =>
      intro c hc
      have hc : c = S.2.1 := by omega
      subst hc
      refine v_go rfl ?_
      rw [r2]
      refine v_bT rfl (Int32.le_refl _) ?_
      exact v_go rfl (v_rt rfl trivial h)
    | succ m ih =>
      intro c hc
      have ih := ih (c + 1) (by omega)
      rw [Nat.pow_succ, ← pk_mul, ← nI_1, ← r1] at ih
      refine v_go rfl ?_
      rw [r2]
      refine v_bF rfl (nI_ge (by omega) (by omega)) ?_
      exact v_run 7 rfl ih
  refine v_in (tb' := t_X2_beginnings) (rk' := 1) rfl rfl rfl ?_
  exact v_run 4 rfl (key S.2.1 0 (by omega))
theorem c_beginningsM {L d : Nat} {S : SH} {D : m_D} {Q : m_K} (hr : relM D S) (ho : okS S) (h : Q (some (.int (nI (p_nb S)))) D) : m_call L (d + 1) 132 [.ref 34] D Q := by
  have r1 : D 34 1 = nI S.1 := hr.1
  have r2 : D 34 2 = nI S.2.1 := hr.2.1
  have hk3 := ho.2.1
  have key : ∀ (m c : Nat), c + m = S.2.1 → m_V L d Q t_X5_beginnings 1 (4, [some (.ref 34), some (.int (nI (S.1 ^ c))), some (.int (nI c))], [], D) := by
    intro m
    induction m with
    | zero =>
      intro c hc
      have hc : c = S.2.1 := by omega
      subst hc
      refine v_go rfl ?_
      rw [r2]
      refine v_bT rfl (Int32.le_refl _) ?_
      exact v_go rfl (v_rt rfl trivial h)
    | succ m ih =>
      intro c hc
      have ih := ih (c + 1) (by omega)
      rw [Nat.pow_succ, ← pk_mul, ← nI_1, ← r1] at ih
      refine v_go rfl ?_
      rw [r2]
      refine v_bF rfl (nI_ge (by omega) (by omega)) ?_
      exact v_run 7 rfl ih
  refine v_in (tb' := t_X5_beginnings) (rk' := 1) rfl rfl rfl ?_
  exact v_run 4 rfl (key S.2.1 0 (by omega))
/-- the beginning of a number -/
def p_dig (S : SH) (b c : Nat) : Nat := b / S.1 ^ (S.2.1 - 1 - c) % S.1
def begS (S : SH) (b : Nat) : SH := (S.1, S.2.1, fun i c => if i = 4 then p_dig S b c else S.2.2.1 i c, S.2.2.2)
theorem begS_begS (S : SH) (a b : Nat) : begS (begS S a) b = begS S b := by
  unfold begS
  congr 3
  funext i c
  by_cases e : i = 4
  · rw [if_pos e, if_pos e]
    rfl
  · rw [if_neg e, if_neg e]
    exact if_neg e
theorem okS_beg {S : SH} {b : Nat} (ho : okS S) (hn : S.1 ≠ 0) : okS (begS S b) := by
  obtain ⟨h1, h2, h3, h4⟩ := ho
  refine ⟨h1, h2, fun l hl => ?_, fun c hc => ?_⟩
  · exact h3 l hl
  · exact ⟨(h4 c hc).1, (h4 c hc).2.1, (h4 c hc).2.2.1, Nat.mod_lt _ (by show 0 < S.1; omega)⟩
theorem nI_m1 (n : Nat) : nI n + -1 = nI n - 1 := (Int32.sub_eq_add_neg _ _).symm
theorem dig_step {n k i b : Nat} (hi : i + 1 ≤ k) : b / n ^ (k - (i + 1)) / n = b / n ^ (k - i) := by
  rw [Nat.div_div_eq_div_mul, ← Nat.pow_succ, show (k - (i + 1)).succ = k - i by omega]
theorem c_beginBy {L d b : Nat} {S : SH} {D : m_D} {Q : m_K} (hr : relC 8 D S) (ho : okS S) (hn : S.1 ≠ 0) (hb : b < 1000) (h : ∀ D', m_fr [13] D D' → relC 8 D' (begS S b) → Q none D') : m_call L (d + 1) 20 [.ref 8, .int (nI b)] D Q := by
  have hk3 := ho.2.1
  have hn6 := ho.1
  have key : ∀ (i : Nat) (D1 : m_D), i ≤ S.2.1 → m_fr [13] D D1 → (∀ j, i ≤ j → j < S.2.1 → D1 13 j = nI (p_dig S b j)) → m_V L d Q t_X2_beginBy 0 (18, [some (.ref 8), some (.int (nI b)), some (.int (nI (b / S.1 ^ (S.2.1 - i)))), some (.int (nI i - 1))], [], D1) := by
    intro i
    induction i with
    | zero =>
      intro D1 hi hf hd
      refine v_go rfl ?_
      refine v_bT rfl (by decide) ?_
      refine v_rt rfl trivial (h D1 hf ?_)
      obtain ⟨h1, h2, h3, h4, h5⟩ := hr
      have e : ∀ a, a ≠ 13 → D1 a = D a := fun a ha => hf a (by simpa using ha)
      refine ⟨by rw [e 8 (by omega)]; exact h1, by rw [e 8 (by omega)]; exact h2, fun l hl => ?_, fun c hc => ⟨?_, ?_, hd c (by omega) hc⟩, fun t ht => ?_⟩
      · rw [e (8 + 1) (by omega), e (8 + 2) (by omega)]
        exact h3 l hl
      · rw [e (8 + 3) (by omega)]
        exact (h4 c hc).1
      · rw [e (8 + 4) (by omega)]
        exact (h4 c hc).2.1
      · rw [e (8 + 6) (by omega)]
        exact h5 t ht
    | succ i ih =>
      intro D1 hi hf hd
      have r1 : D1 8 0 = nI S.1 := by rw [hf 8 (by simp)]; exact hr.1
      have hin : vp_in (nI i) 3 := vp_in_nI (by omega) (by omega)
      have hcl : (nI i).toNatClampNeg = i := nI_clamp (by omega)
      have hq : b / S.1 ^ (S.2.1 - (i + 1)) < 1000 := Nat.lt_of_le_of_lt (Nat.div_le_self _ _) hb
      have hne : ¬ nI S.1 = 0 := nI_ne0 (by omega) (by omega)
      have ih := ih (m_up D1 13 i (nI (p_dig S b i))) (by omega) (hf.up (by simp)) (fun j h1 h2 => by
        by_cases e : j = i
        · rw [e, m_up_s]
        · rw [m_up_n e]
          exact hd j (by omega) h2)
      have er : nI (b / S.1 ^ (S.2.1 - (i + 1))) - nI (b / S.1 ^ (S.2.1 - (i + 1))) / nI S.1 * nI S.1 = nI (p_dig S b i) := by
        rw [pk_rem (by omega) (by omega) (by omega)]
        unfold p_dig
        rw [show S.2.1 - 1 - i = S.2.1 - (i + 1) by omega]
      have ed : nI (b / S.1 ^ (S.2.1 - (i + 1))) / nI S.1 = nI (b / S.1 ^ (S.2.1 - i)) := by
        rw [pk_div (by omega) (by omega) (by omega), dig_step hi]
      rw [nI_pred, ← nI_m1] at *
      refine v_go rfl ?_
      refine v_bF rfl (nI_pos (by omega)) ?_
      refine v_go rfl ?_
      rw [r1]
      refine v_sd rfl hne ?_
      rw [er]
      refine v_sd rfl hin ?_
      rw [hcl]
      refine v_go rfl ?_
      have r1' : m_up D1 13 i (nI (p_dig S b i)) 8 0 = nI S.1 := r1
      rw [r1']
      refine v_sd rfl hne ?_
      rw [ed]
      exact v_run 3 rfl ih
  have r1 : D 8 0 = nI S.1 := hr.1
  have r2 : D 8 1 = nI S.2.1 := hr.2.1
  have hk := key S.2.1 D (Nat.le_refl _) (m_fr.refl _ _) (fun j h1 h2 => absurd h2 (by omega))
  rw [Nat.sub_self, Nat.pow_zero, Nat.div_one, ← r2] at hk
  refine v_in (tb' := t_X2_beginBy) (rk' := 0) rfl rfl rfl ?_
  refine v_go rfl ?_
  rw [r1]
  refine v_bT rfl (nI_le (a := 1) (by omega) (by omega)) ?_
  exact v_run 7 rfl hk
theorem c_begins {L d b : Nat} {S : SH} {D : m_D} {Q : m_K} (hr : relM D S) (ho : okS S) (hn : S.1 ≠ 0) (hb : b < 1000) (h : ∀ D', m_fM [39] [] D D' → relM D' (begS S b) → Q none D') : m_call L (d + 1) 133 [.ref 34, .int (nI b)] D Q := by
  have hk3 := ho.2.1
  have hn6 := ho.1
  have key : ∀ (i : Nat) (D1 : m_D), i ≤ S.2.1 → m_fM [39] [] D D1 → (∀ j, i ≤ j → j < S.2.1 → D1 39 j = nI (p_dig S b j)) → m_V L d Q t_X5_begins 0 (9, [some (.ref 34), some (.int (nI b)), some (.int (nI (b / S.1 ^ (S.2.1 - i)))), some (.int (nI i - 1))], [], D1) := by
    intro i
    induction i with
    | zero =>
      intro D1 hi hf hd
      refine v_go rfl ?_
      refine v_bT rfl (by decide) ?_
      refine v_rt rfl trivial (h D1 hf ?_)
      obtain ⟨h1, h2, h3, h4, h5⟩ := hr
      have e : ∀ a, a ≠ 39 → a ≠ 34 → D1 a = D a := fun a ha hb => hf.1 a (by simpa using ha) hb
      refine ⟨by rw [hf.2 1 (by simp)]; exact h1, by rw [hf.2 2 (by simp)]; exact h2, fun l hl => ?_, fun c hc => ⟨?_, ?_, hd c (by omega) hc⟩, fun t ht => ?_⟩
      · rw [e 35 (by omega) (by omega), e 36 (by omega) (by omega)]
        exact h3 l hl
      · rw [e 37 (by omega) (by omega)]
        exact (h4 c hc).1
      · rw [e 38 (by omega) (by omega)]
        exact (h4 c hc).2.1
      · rw [e 40 (by omega) (by omega)]
        exact h5 t ht
    | succ i ih =>
      intro D1 hi hf hd
      have r1 : D1 34 1 = nI S.1 := by rw [hf.2 1 (by simp)]; exact hr.1
      have hin : vp_in (nI i) 3 := vp_in_nI (by omega) (by omega)
      have hcl : (nI i).toNatClampNeg = i := nI_clamp (by omega)
      have hq : b / S.1 ^ (S.2.1 - (i + 1)) < 1000 := Nat.lt_of_le_of_lt (Nat.div_le_self _ _) hb
      have hne : ¬ nI S.1 = 0 := nI_ne0 (by omega) (by omega)
      have ih := ih (m_up D1 39 i (nI (p_dig S b i))) (by omega) (hf.up (by simp) (by decide)) (fun j h1 h2 => by
        by_cases e : j = i
        · rw [e, m_up_s]
        · rw [m_up_n e]
          exact hd j (by omega) h2)
      have er : nI (b / S.1 ^ (S.2.1 - (i + 1))) - nI (b / S.1 ^ (S.2.1 - (i + 1))) / nI S.1 * nI S.1 = nI (p_dig S b i) := by
        rw [pk_rem (by omega) (by omega) (by omega)]
        unfold p_dig
        rw [show S.2.1 - 1 - i = S.2.1 - (i + 1) by omega]
      have ed : nI (b / S.1 ^ (S.2.1 - (i + 1))) / nI S.1 = nI (b / S.1 ^ (S.2.1 - i)) := by
        rw [pk_div (by omega) (by omega) (by omega), dig_step hi]
      rw [nI_pred, ← nI_m1] at *
      refine v_go rfl ?_
      refine v_bF rfl (nI_pos (by omega)) ?_
      refine v_go rfl ?_
      rw [r1]
      refine v_sd rfl hne ?_
      rw [er]
      refine v_sd rfl hin ?_
      rw [hcl]
      refine v_go rfl ?_
      have r1' : m_up D1 39 i (nI (p_dig S b i)) 34 1 = nI S.1 := r1
      rw [r1']
      refine v_sd rfl hne ?_
      rw [ed]
      exact v_run 3 rfl ih
  have r1 : D 34 1 = nI S.1 := hr.1
  have r2 : D 34 2 = nI S.2.1 := hr.2.1
  have hk := key S.2.1 D (Nat.le_refl _) (m_fM.refl _ _ _) (fun j h1 h2 => absurd h2 (by omega))
  rw [Nat.sub_self, Nat.pow_zero, Nat.div_one, ← r2] at hk
  refine v_in (tb' := t_X5_begins) (rk' := 0) rfl rfl rfl ?_
  exact v_run 7 rfl hk
