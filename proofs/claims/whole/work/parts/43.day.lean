/-! ===== day ===== -/
theorem c_firstWrong {L d k a m n : Nat} {f : Nat → Int32} {S : SH} {D : m_D} {Q : m_K} (hk : k < 4) (hn : n ≤ 60) (ham : a + 2 * m ≤ n) (hs : ∀ i, i < n → D (25 + 2 * k) i = f i) (hr : relC 1 D S) (ho : okS S) (hA : allA f a m) (h : ∀ D', m_fr z_T D D' → ((p_dy S (cA f a) m).2 = none → relC 8 D' (p_dy S (cA f a) m).1) → Q (some (.int (oI (p_dy S (cA f a) m).2))) D') : m_call L (d + 3) 41 [.ref 0, .ref (24 + 2 * k), .int (nI a), .int (nI m)] D Q := by
  have hk4 : k = 0 ∨ k = 1 ∨ k = 2 ∨ k = 3 := by omega
  rcases hk4 with rfl | rfl | rfl | rfl
  · refine v_in (tb' := t_X4_firstWrong) (rk' := 1) rfl rfl rfl ?_
    refine v_go rfl ?_
    refine v_ca rfl ?_
    refine c_become hr ho (fun D1 hf1 hr1 => ?_)
    have key : ∀ (q p : Nat) (S1 : SH) (D2 : m_D), p + q = m → p_dy S (cA f a) p = (S1, none) → okS S1 → m_fr z_T D D2 → relC 8 D2 S1 → m_V L (d + 2) Q t_X4_firstWrong 1 (14, [some (.ref 0), some (.ref (24 + 2 * 0)), some (.int (nI a)), some (.int (nI m)), some (.int (nI p))], [], D2) := by
      intro q
      induction q with
      | zero =>
        intro p S1 D2 hq hd ho1 hf2 hr2
        have hq : p = m := by omega
        subst hq
        have h := h D2 hf2 (fun _ => by rw [hd]; exact hr2)
        rw [hd] at h
        refine v_go rfl ?_
        refine v_bT rfl (Int32.le_refl _) ?_
        exact v_go rfl (v_rt rfl trivial h)
      | succ q ih =>
        intro p S1 D2 hq hd ho1 hf2 hr2
        have i1 : vp_in (nI (a + 2 * p)) 60 := vp_in_nI (by omega) (by omega)
        have c1 : (nI (a + 2 * p)).toNatClampNeg = a + 2 * p := nI_clamp (by omega)
        have i2 : vp_in (nI (a + 2 * p + 1)) 60 := vp_in_nI (by omega) (by omega)
        have c2 : (nI (a + 2 * p + 1)).toNatClampNeg = a + 2 * p + 1 := nI_clamp (by omega)
        have hs2 : ∀ i, i < n → D2 (25 + 2 * 0) i = f i := fun i hi => by
          rw [hf2 (25 + 2 * 0) (by decide)]
          exact hs i hi
        obtain ⟨ea, eb, hok⟩ := act_ok (hA p (by omega))
        refine v_go rfl ?_
        refine v_bF rfl (nI_ge (by omega) (by omega)) ?_
        refine v_go rfl ?_
        rw [ix2]
        refine v_sd rfl i1 ?_
        rw [c1, hs2 _ (by omega)]
        refine v_go rfl ?_
        rw [ix3]
        refine v_sd rfl i2 ?_
        rw [c2, hs2 _ (by omega), ea, eb]
        refine v_ca rfl ?_
        refine c_does hr2 ho1 hok (fun D3 S2 e hf3 hr3 => ?_) (fun e => ?_)
        · have ih := ih (p + 1) S2 D3 (by omega) (p_dy_s hd e) (p_do_ok ho1 hok e).1 (hf2.trans hf3) hr3
          rw [← nI_1] at ih
          refine v_go rfl ?_
          refine v_bT rfl (by decide) ?_
          exact v_run 2 rfl ih
        · have e1 := p_dy_w (p_dy_n hd e) q
          rw [show p + 1 + q = m by omega] at e1
          have h := h D2 hf2 (fun z => by rw [e1] at z; cases z)
          rw [e1] at h
          refine v_go rfl ?_
          refine v_bF rfl (by decide) ?_
          exact v_go rfl (v_rt rfl trivial h)
    exact v_run 2 rfl (key m 0 S D1 (by omega) rfl ho hf1 hr1)
  · refine v_in (tb' := t_X4_firstWrong) (rk' := 1) rfl rfl rfl ?_
    refine v_go rfl ?_
    refine v_ca rfl ?_
    refine c_become hr ho (fun D1 hf1 hr1 => ?_)
    have key : ∀ (q p : Nat) (S1 : SH) (D2 : m_D), p + q = m → p_dy S (cA f a) p = (S1, none) → okS S1 → m_fr z_T D D2 → relC 8 D2 S1 → m_V L (d + 2) Q t_X4_firstWrong 1 (14, [some (.ref 0), some (.ref (24 + 2 * 1)), some (.int (nI a)), some (.int (nI m)), some (.int (nI p))], [], D2) := by
      intro q
      induction q with
      | zero =>
        intro p S1 D2 hq hd ho1 hf2 hr2
        have hq : p = m := by omega
        subst hq
        have h := h D2 hf2 (fun _ => by rw [hd]; exact hr2)
        rw [hd] at h
        refine v_go rfl ?_
        refine v_bT rfl (Int32.le_refl _) ?_
        exact v_go rfl (v_rt rfl trivial h)
      | succ q ih =>
        intro p S1 D2 hq hd ho1 hf2 hr2
        have i1 : vp_in (nI (a + 2 * p)) 60 := vp_in_nI (by omega) (by omega)
        have c1 : (nI (a + 2 * p)).toNatClampNeg = a + 2 * p := nI_clamp (by omega)
        have i2 : vp_in (nI (a + 2 * p + 1)) 60 := vp_in_nI (by omega) (by omega)
        have c2 : (nI (a + 2 * p + 1)).toNatClampNeg = a + 2 * p + 1 := nI_clamp (by omega)
        have hs2 : ∀ i, i < n → D2 (25 + 2 * 1) i = f i := fun i hi => by
          rw [hf2 (25 + 2 * 1) (by decide)]
          exact hs i hi
        obtain ⟨ea, eb, hok⟩ := act_ok (hA p (by omega))
        refine v_go rfl ?_
        refine v_bF rfl (nI_ge (by omega) (by omega)) ?_
        refine v_go rfl ?_
        rw [ix2]
        refine v_sd rfl i1 ?_
        rw [c1, hs2 _ (by omega)]
        refine v_go rfl ?_
        rw [ix3]
        refine v_sd rfl i2 ?_
        rw [c2, hs2 _ (by omega), ea, eb]
        refine v_ca rfl ?_
        refine c_does hr2 ho1 hok (fun D3 S2 e hf3 hr3 => ?_) (fun e => ?_)
        · have ih := ih (p + 1) S2 D3 (by omega) (p_dy_s hd e) (p_do_ok ho1 hok e).1 (hf2.trans hf3) hr3
          rw [← nI_1] at ih
          refine v_go rfl ?_
          refine v_bT rfl (by decide) ?_
          exact v_run 2 rfl ih
        · have e1 := p_dy_w (p_dy_n hd e) q
          rw [show p + 1 + q = m by omega] at e1
          have h := h D2 hf2 (fun z => by rw [e1] at z; cases z)
          rw [e1] at h
          refine v_go rfl ?_
          refine v_bF rfl (by decide) ?_
          exact v_go rfl (v_rt rfl trivial h)
    exact v_run 2 rfl (key m 0 S D1 (by omega) rfl ho hf1 hr1)
  · refine v_in (tb' := t_X4_firstWrong) (rk' := 1) rfl rfl rfl ?_
    refine v_go rfl ?_
    refine v_ca rfl ?_
    refine c_become hr ho (fun D1 hf1 hr1 => ?_)
    have key : ∀ (q p : Nat) (S1 : SH) (D2 : m_D), p + q = m → p_dy S (cA f a) p = (S1, none) → okS S1 → m_fr z_T D D2 → relC 8 D2 S1 → m_V L (d + 2) Q t_X4_firstWrong 1 (14, [some (.ref 0), some (.ref (24 + 2 * 2)), some (.int (nI a)), some (.int (nI m)), some (.int (nI p))], [], D2) := by
      intro q
      induction q with
      | zero =>
        intro p S1 D2 hq hd ho1 hf2 hr2
        have hq : p = m := by omega
        subst hq
        have h := h D2 hf2 (fun _ => by rw [hd]; exact hr2)
        rw [hd] at h
        refine v_go rfl ?_
        refine v_bT rfl (Int32.le_refl _) ?_
        exact v_go rfl (v_rt rfl trivial h)
      | succ q ih =>
        intro p S1 D2 hq hd ho1 hf2 hr2
        have i1 : vp_in (nI (a + 2 * p)) 60 := vp_in_nI (by omega) (by omega)
        have c1 : (nI (a + 2 * p)).toNatClampNeg = a + 2 * p := nI_clamp (by omega)
        have i2 : vp_in (nI (a + 2 * p + 1)) 60 := vp_in_nI (by omega) (by omega)
        have c2 : (nI (a + 2 * p + 1)).toNatClampNeg = a + 2 * p + 1 := nI_clamp (by omega)
        have hs2 : ∀ i, i < n → D2 (25 + 2 * 2) i = f i := fun i hi => by
          rw [hf2 (25 + 2 * 2) (by decide)]
          exact hs i hi
        obtain ⟨ea, eb, hok⟩ := act_ok (hA p (by omega))
        refine v_go rfl ?_
        refine v_bF rfl (nI_ge (by omega) (by omega)) ?_
        refine v_go rfl ?_
        rw [ix2]
        refine v_sd rfl i1 ?_
        rw [c1, hs2 _ (by omega)]
        refine v_go rfl ?_
        rw [ix3]
        refine v_sd rfl i2 ?_
        rw [c2, hs2 _ (by omega), ea, eb]
        refine v_ca rfl ?_
        refine c_does hr2 ho1 hok (fun D3 S2 e hf3 hr3 => ?_) (fun e => ?_)
        · have ih := ih (p + 1) S2 D3 (by omega) (p_dy_s hd e) (p_do_ok ho1 hok e).1 (hf2.trans hf3) hr3
          rw [← nI_1] at ih
          refine v_go rfl ?_
          refine v_bT rfl (by decide) ?_
          exact v_run 2 rfl ih
        · have e1 := p_dy_w (p_dy_n hd e) q
          rw [show p + 1 + q = m by omega] at e1
          have h := h D2 hf2 (fun z => by rw [e1] at z; cases z)
          rw [e1] at h
          refine v_go rfl ?_
          refine v_bF rfl (by decide) ?_
          exact v_go rfl (v_rt rfl trivial h)
    exact v_run 2 rfl (key m 0 S D1 (by omega) rfl ho hf1 hr1)
  · refine v_in (tb' := t_X4_firstWrong) (rk' := 1) rfl rfl rfl ?_
    refine v_go rfl ?_
    refine v_ca rfl ?_
    refine c_become hr ho (fun D1 hf1 hr1 => ?_)
    have key : ∀ (q p : Nat) (S1 : SH) (D2 : m_D), p + q = m → p_dy S (cA f a) p = (S1, none) → okS S1 → m_fr z_T D D2 → relC 8 D2 S1 → m_V L (d + 2) Q t_X4_firstWrong 1 (14, [some (.ref 0), some (.ref (24 + 2 * 3)), some (.int (nI a)), some (.int (nI m)), some (.int (nI p))], [], D2) := by
      intro q
      induction q with
      | zero =>
        intro p S1 D2 hq hd ho1 hf2 hr2
        have hq : p = m := by omega
        subst hq
        have h := h D2 hf2 (fun _ => by rw [hd]; exact hr2)
        rw [hd] at h
        refine v_go rfl ?_
        refine v_bT rfl (Int32.le_refl _) ?_
        exact v_go rfl (v_rt rfl trivial h)
      | succ q ih =>
        intro p S1 D2 hq hd ho1 hf2 hr2
        have i1 : vp_in (nI (a + 2 * p)) 60 := vp_in_nI (by omega) (by omega)
        have c1 : (nI (a + 2 * p)).toNatClampNeg = a + 2 * p := nI_clamp (by omega)
        have i2 : vp_in (nI (a + 2 * p + 1)) 60 := vp_in_nI (by omega) (by omega)
        have c2 : (nI (a + 2 * p + 1)).toNatClampNeg = a + 2 * p + 1 := nI_clamp (by omega)
        have hs2 : ∀ i, i < n → D2 (25 + 2 * 3) i = f i := fun i hi => by
          rw [hf2 (25 + 2 * 3) (by decide)]
          exact hs i hi
        obtain ⟨ea, eb, hok⟩ := act_ok (hA p (by omega))
        refine v_go rfl ?_
        refine v_bF rfl (nI_ge (by omega) (by omega)) ?_
        refine v_go rfl ?_
        rw [ix2]
        refine v_sd rfl i1 ?_
        rw [c1, hs2 _ (by omega)]
        refine v_go rfl ?_
        rw [ix3]
        refine v_sd rfl i2 ?_
        rw [c2, hs2 _ (by omega), ea, eb]
        refine v_ca rfl ?_
        refine c_does hr2 ho1 hok (fun D3 S2 e hf3 hr3 => ?_) (fun e => ?_)
        · have ih := ih (p + 1) S2 D3 (by omega) (p_dy_s hd e) (p_do_ok ho1 hok e).1 (hf2.trans hf3) hr3
          rw [← nI_1] at ih
          refine v_go rfl ?_
          refine v_bT rfl (by decide) ?_
          exact v_run 2 rfl ih
        · have e1 := p_dy_w (p_dy_n hd e) q
          rw [show p + 1 + q = m by omega] at e1
          have h := h D2 hf2 (fun z => by rw [e1] at z; cases z)
          rw [e1] at h
          refine v_go rfl ?_
          refine v_bF rfl (by decide) ?_
          exact v_go rfl (v_rt rfl trivial h)
    exact v_run 2 rfl (key m 0 S D1 (by omega) rfl ho hf1 hr1)
def sp_day (S : SH) (wr : Option Nat) (w : Int32) : Int32 := if w = 1 then oI wr else match wr with
  | some p => -100 - nI p
  | none => if w = 0 then nI (p_all S) else if w = 2 then p_hang S S.1 else if w = 3 then p_mud S S.1 else if w = 4 then nI (p_lost S S.1) else nI (p_wet S (w - 10).toNatClampNeg S.1)
def p_ask (w : Int32) : Prop := vp_in w 5 ∨ ∃ f, f < 4 ∧ w = nI (10 + f)
theorem ask_iff (w : Int32) : p_ask w ↔ vp_in w 5 ∨ ((10 : Int32) ≤ w ∧ w < 14) := by
  unfold p_ask
  constructor
  · rintro (h | ⟨f, hf, rfl⟩)
    · exact Or.inl h
    · exact Or.inr ⟨nI_le (a := 10) (by omega) (by omega), nI_lt (b := 14) (by omega) (by omega)⟩
  · rintro (h | ⟨h1, h2⟩)
    · exact Or.inl h
    · have h0 : ¬ w < 0 := by
        rw [Int32.lt_iff_toInt_lt]
        rw [Int32.le_iff_toInt_le] at h1
        have e1 : (10 : Int32).toInt = 10 := by decide
        have e0 : (0 : Int32).toInt = 0 := by decide
        omega
      obtain ⟨j, hj, rfl⟩ := nI_of h0
      have h3 := (nI_leI (a := 10) (by omega) hj).mp h1
      have h4 := (nI_ltI (b := 14) hj (by omega)).mp h2
      exact Or.inr ⟨j - 10, by omega, by rw [show 10 + (j - 10) = j by omega]⟩
theorem c_isAsked {L d : Nat} {w : Int32} {D : m_D} {Q : m_K} (h1 : p_ask w → Q (some (.int 1)) D) (h0 : ¬ p_ask w → Q (some (.int 0)) D) : m_call L (d + 2) 43 [.int w] D Q := by
  rw [ask_iff] at h1 h0
  have l10 : w < 10 ↔ ¬ (10 : Int32) ≤ w := by
    rw [Int32.le_iff_toInt_le, Int32.lt_iff_toInt_lt]
    omega
  have l14 : (14 : Int32) ≤ w ↔ ¬ w < 14 := by
    rw [Int32.le_iff_toInt_le, Int32.lt_iff_toInt_lt]
    omega
  refine v_in (tb' := t_X4_isAskedOfDay) (rk' := 2) rfl rfl rfl ?_
  refine v_go rfl ?_
  refine v_ca rfl ?_
  refine c_isWithin (n := 4) (by omega) (fun z => ?_) (fun z => ?_)
  · refine v_go rfl ?_
    refine v_bT rfl (by decide) ?_
    exact v_go rfl (v_rt rfl (Or.inr rfl) (h1 (Or.inl z)))
  · refine v_go rfl ?_
    refine v_bF rfl (by decide) ?_
    refine v_go rfl ?_
    refine v_br rfl (fun z2 => ?_) (fun z2 => ?_)
    · exact v_go rfl (v_rt rfl (Or.inl rfl) (h0 (fun y => y.elim z (fun y => l10.mp z2 y.1))))
    · have z2 : (10 : Int32) ≤ w := Decidable.not_not.mp (fun q => z2 (l10.mpr q))
      refine v_go rfl ?_
      refine v_br rfl (fun z3 => ?_) (fun z3 => ?_)
      · exact v_go rfl (v_rt rfl (Or.inl rfl) (h0 (fun y => y.elim z (fun y => l14.mp z3 y.2))))
      · have z3 : w < 14 := Decidable.not_not.mp (fun q => z3 (l14.mpr q))
        exact v_go rfl (v_rt rfl (Or.inr rfl) (h1 (Or.inr ⟨z2, z3⟩)))
theorem askM (w : Int32) : (((0 : Int64) ≤ w.toInt64 ∧ w.toInt64 ≤ 4) ∨ ((10 : Int64) ≤ w.toInt64 ∧ w.toInt64 ≤ 13)) ↔ p_ask w := by
  rw [ask_iff, ← in_iff (g := 4) (n := 5) (by decide)]
  have e : ((10 : Int64) ≤ w.toInt64 ∧ w.toInt64 ≤ 13) ↔ ((10 : Int32) ≤ w ∧ w < 14) := by
    rw [Int64.le_iff_toInt_le, Int64.le_iff_toInt_le, Int32.toInt_toInt64, Int32.le_iff_toInt_le, Int32.lt_iff_toInt_lt]
    have e1 : (10 : Int64).toInt = 10 := by decide
    have e2 : (13 : Int64).toInt = 13 := by decide
    have e3 : (10 : Int32).toInt = 10 := by decide
    have e4 : (14 : Int32).toInt = 14 := by decide
    omega
  rw [e]
theorem ask_case {w : Int32} (h : p_ask w) (h1 : ¬ w = 1) : w = 0 ∨ w = 2 ∨ w = 3 ∨ w = 4 ∨ ∃ f, f < 4 ∧ w = nI (10 + f) := by
  rcases h with h | h
  · obtain ⟨j, hj, rfl⟩ := vp_in_of h (by omega)
    match j, hj with
    | 0, _ => exact Or.inl rfl
    | 1, _ => exact absurd rfl h1
    | 2, _ => exact Or.inr (Or.inl rfl)
    | 3, _ => exact Or.inr (Or.inr (Or.inl rfl))
    | 4, _ => exact Or.inr (Or.inr (Or.inr (Or.inl rfl)))
  · exact Or.inr (Or.inr (Or.inr (Or.inr h)))
theorem t10 : ∀ f, f < 4 → (¬ nI (10 + f) = 1 ∧ ¬ nI (10 + f) = 0 ∧ ¬ nI (10 + f) = 2 ∧ ¬ nI (10 + f) = 3 ∧ ¬ nI (10 + f) = 4) ∧ nI (10 + f) - 10 = nI f := by decide +kernel
theorem sp_day10 {S : SH} {f : Nat} (hf : f < 4) : sp_day S none (nI (10 + f)) = nI (p_wet S f S.1) := by
  obtain ⟨⟨a1, a2, a3, a4, a5⟩, e⟩ := t10 f hf
  unfold sp_day
  rw [if_neg a1]
  dsimp only
  rw [if_neg a2, if_neg a3, if_neg a4, if_neg a5, e, nI_clamp (by omega)]
theorem c_answerOfDay {L d : Nat} {w : Int32} {S : SH} {wr : Option Nat} {D : m_D} {Q : m_K} (ho : okS S) (hwr : ∀ p, wr = some p → p < 100) (hr : wr = none → relC 8 D S) (hw : p_ask w) (h : ∀ D', m_fr z_F D D' → Q (some (.int (sp_day S wr w))) D') : m_call L (d + 5) 42 [.ref 0, .int (oI wr), .int w] D Q := by
  refine v_in (tb' := t_X4_answerOfDay) (rk' := 1) rfl rfl rfl ?_
  refine v_go rfl ?_
  by_cases e1 : w = 1
  · have h := h D (m_fr.refl _ _)
    unfold sp_day at h
    rw [if_pos e1] at h
    refine v_bF rfl (fun z => z e1) ?_
    exact v_go rfl (v_rt rfl trivial h)
  · refine v_bT rfl e1 ?_
    refine v_go rfl ?_
    cases wr with
    | some p =>
      have h := h D (m_fr.refl _ _)
      unfold sp_day at h
      rw [if_neg e1] at h
      refine v_bF rfl (nI_m9 (by have := hwr p rfl; omega)) ?_
      exact v_go rfl (v_rt rfl trivial h)
    | none =>
      refine v_bT rfl rfl ?_
      refine v_go rfl ?_
      refine v_ca rfl ?_
      refine c_workOut (Or.inr rfl) (hr rfl) ho (fun D3 hf3 hF => ?_)
      have h := h D3 hf3
      have hall := hF.2.2.1
      refine v_go rfl ?_
      refine v_sw rfl ?_
      rcases ask_case hw e1 with rfl | rfl | rfl | rfl | ⟨f, hf, rfl⟩
      · refine ⟨fun _ => ?_, fun z => absurd rfl z⟩
        refine v_go rfl ?_
        refine v_ca rfl ?_
        refine c_wetAll hall ?_
        exact v_rt rfl trivial h
      · refine ⟨fun z => absurd z (by decide), fun _ => ⟨fun z => absurd z (by decide), fun _ => ⟨fun _ => ?_, fun z => absurd rfl z⟩⟩⟩
        have e5 : D3 15 5 = p_hang S S.1 := hF.2.2.2.1
        refine v_go rfl ?_
        rw [e5]
        exact v_rt rfl trivial h
      · refine ⟨fun z => absurd z (by decide), fun _ => ⟨fun z => absurd z (by decide), fun _ => ⟨fun z => absurd z (by decide), fun _ => ⟨fun _ => ?_, fun z => absurd rfl z⟩⟩⟩⟩
        have e6 : D3 15 6 = p_mud S S.1 := hF.2.2.2.2.1
        refine v_go rfl ?_
        rw [e6]
        exact v_rt rfl trivial h
      · refine ⟨fun z => absurd z (by decide), fun _ => ⟨fun z => absurd z (by decide), fun _ => ⟨fun z => absurd z (by decide), fun _ => ⟨fun z => absurd z (by decide), fun _ => ⟨fun _ => ?_, fun z => absurd rfl z⟩⟩⟩⟩⟩
        have e7 : D3 15 7 = nI (p_lost S S.1) := hF.2.2.2.2.2
        refine v_go rfl ?_
        rw [e7]
        exact v_rt rfl trivial h
      · obtain ⟨⟨a1, a2, a3, a4, a5⟩, e⟩ := t10 f hf
        refine ⟨fun z => absurd z a2, fun _ => ⟨fun z => absurd z a1, fun _ => ⟨fun z => absurd z a3, fun _ => ⟨fun z => absurd z a4, fun _ => ⟨fun z => absurd z a5, fun _ => ?_⟩⟩⟩⟩⟩
        rw [sp_day10 hf] at h
        refine v_go rfl ?_
        rw [e]
        refine v_sd rfl (vp_in_nI hf (by omega)) ?_
        rw [nI_clamp (by omega), hall f hf]
        exact v_rt rfl trivial h
abbrev z_MD : List Nat := [35, 39, 40, 46, 47, 48, 49, 50]
theorem mdA {D D' : m_D} (hf : m_fM [35, 39, 40] [] D D') : m_fM z_MD [22] D D' := hf.sub (by simp) (by simp)
theorem mdR {D D' : m_D} (hf : m_fM z_R [22] D D') : m_fM z_MD [22] D D' := hf.sub (by simp) (by simp)
theorem c_dayOf {L d b a m : Nat} {f : Nat → Int32} {w : Int32} {S : SH} {D : m_D} {Q : m_K} (hb : b ≤ 180) (ham : a + 2 * m ≤ 60) (hs : ∀ i, i < a + 2 * m → D 58 (b + i) = f i) (hr : relM D S) (ho : okS S) (hA : allA f a m) (hw : p_ask w) (h : ∀ D', m_fM z_MD [22] D D' → relM D' (p_dy S (cA f a) m).1 → Q (some (.int (sp_day (p_dy S (cA f a) m).1 (p_dy S (cA f a) m).2 w))) D') : m_call L (d + 5) 128 [.ref 34, .int (nI (b + a)), .int (nI m), .int w] D Q := by
  have hn6 := ho.1
  have fin : ∀ (S1 : SH) (wr : Option Nat) (z : Option Value) (D1 : m_D), p_dy S (cA f a) m = (S1, wr) → okS S1 → (∀ p, wr = some p → p < 100) → m_fM z_MD [22] D D1 → relM D1 S1 → m_V L (d + 4) Q t_X5_dayOf 1 (64, [some (.ref 34), some (.int (nI (b + a))), some (.int (nI m)), some (.int w), some (.int (oI wr)), z], [], D1) := by
    intro S1 wr z D1 hd ho1 hwr hf1 hr1
    rw [hd] at h
    have hn6 := ho1.1
    have hk3 := ho1.2.1
    refine v_go rfl ?_
    by_cases e1 : w = 1
    · have h := h D1 hf1 hr1
      unfold sp_day at h
      rw [if_pos e1] at h
      refine v_bF rfl (fun z => z e1) ?_
      exact v_go rfl (v_rt rfl trivial h)
    · refine v_bT rfl e1 ?_
      refine v_go rfl ?_
      cases wr with
      | some p =>
        have h := h D1 hf1 hr1
        unfold sp_day at h
        rw [if_neg e1] at h
        refine v_bF rfl (nI_pos (n := p) (by have := hwr p rfl; omega)) ?_
        exact v_go rfl (v_rt rfl trivial h)
      | none =>
        refine v_bT rfl (by decide) ?_
        refine v_go rfl ?_
        refine v_ca rfl ?_
        refine c_rains hr1 ho1 (fun D3 hf3 hF => ?_)
        have hr3 := relM_keep hf3 (by decide) (by decide) hr1
        have h := h D3 (hf1.trans (mdR hf3)) hr3
        have hall := hF.2.2.1
        refine v_go rfl ?_
        rcases ask_case hw e1 with rfl | rfl | rfl | rfl | ⟨g, hg, rfl⟩
        · refine v_bT rfl (by decide) ?_
          refine v_go rfl ?_
          refine v_bF rfl (fun z => z rfl) ?_
          refine v_go rfl ?_
          refine v_ca rfl ?_
          refine c_wetAllM hall ?_
          exact v_go rfl (v_rt rfl trivial h)
        · refine v_bT rfl (by decide) ?_
          refine v_go rfl ?_
          refine v_bT rfl (by decide) ?_
          refine v_go rfl ?_
          refine v_bF rfl (fun z => z rfl) ?_
          refine v_go rfl ?_
          refine v_ca rfl ?_
          refine c_hang hr3.1 hn6 (fun i hi => (hF.1 i hi).1) ?_
          exact v_go rfl (v_rt rfl trivial h)
        · refine v_bT rfl (by decide) ?_
          refine v_go rfl ?_
          refine v_bT rfl (by decide) ?_
          refine v_go rfl ?_
          refine v_bT rfl (by decide) ?_
          refine v_go rfl ?_
          refine v_bF rfl (fun z => z rfl) ?_
          refine v_go rfl ?_
          refine v_ca rfl ?_
          refine c_mud hr3.1 hn6 hk3 (fun i hi => ⟨(hF.1 i hi).1, (hF.1 i hi).2.1⟩) ?_
          exact v_go rfl (v_rt rfl trivial h)
        · have e7 : D3 34 22 = nI (p_lost S1 S1.1) := hF.2.2.2
          refine v_bT rfl (by decide) ?_
          refine v_go rfl ?_
          refine v_bT rfl (by decide) ?_
          refine v_go rfl ?_
          refine v_bT rfl (by decide) ?_
          refine v_go rfl ?_
          refine v_bT rfl (by decide) ?_
          refine v_go rfl ?_
          rw [e7]
          exact v_rt rfl trivial h
        · obtain ⟨-, e⟩ := t10 g hg
          rw [sp_day10 hg] at h
          refine v_bF rfl (nI_nlt (b := 10) (by omega) (by omega)) ?_
          refine v_go rfl ?_
          rw [e]
          refine v_sd rfl (vp_in_nI hg (by omega)) ?_
          rw [nI_clamp (by omega), hall g hg]
          exact v_go rfl (v_rt rfl trivial h)
  have key : ∀ (q p : Nat) (S1 : SH) (D2 : m_D), p + q = m → p_dy S (cA f a) p = (S1, none) → okS S1 → m_fM z_MD [22] D D2 → relM D2 S1 → m_V L (d + 4) Q t_X5_dayOf 1 (7, [some (.ref 34), some (.int (nI (b + a))), some (.int (nI m)), some (.int w), some (.int (-9)), some (.int (nI p))], [], D2) := by
    intro q
    induction q with
    | zero =>
      intro p S1 D2 hq hd ho1 hf2 hr2
      have hq : p = m := by omega
      subst hq
      refine v_go rfl ?_
      refine v_bT rfl (Int32.le_refl _) ?_
      exact fin S1 none _ D2 hd ho1 (fun p e => by cases e) hf2 hr2
    | succ q ih =>
      intro p S1 D2 hq hd ho1 hf2 hr2
      have i1 : vp_in (nI (b + a + 2 * p)) 240 := vp_in_nI (by omega) (by omega)
      have c1 : (nI (b + a + 2 * p)).toNatClampNeg = b + a + 2 * p := nI_clamp (by omega)
      have i2 : vp_in (nI (b + a + 2 * p + 1)) 240 := vp_in_nI (by omega) (by omega)
      have c2 : (nI (b + a + 2 * p + 1)).toNatClampNeg = b + a + 2 * p + 1 := nI_clamp (by omega)
      have e58 : D2 58 = D 58 := hf2.1 58 (by simp) (by decide)
      have s1 : D2 58 (b + a + 2 * p) = f (a + 2 * p) := by
        rw [e58, Nat.add_assoc]
        exact hs _ (by omega)
      have s2 : D2 58 (b + a + 2 * p + 1) = f (a + 2 * p + 1) := by
        rw [e58, Nat.add_assoc, Nat.add_assoc, ← Nat.add_assoc a]
        exact hs _ (by omega)
      obtain ⟨ea, eb, hok⟩ := act_ok (hA p (by omega))
      refine v_go rfl ?_
      refine v_bF rfl (nI_ge (by omega) (by omega)) ?_
      refine v_go rfl ?_
      refine v_bF rfl (by decide) ?_
      refine v_go rfl ?_
      rw [ix2]
      refine v_sd rfl i1 ?_
      rw [c1, s1]
      refine v_go rfl ?_
      rw [ix3]
      refine v_sd rfl i2 ?_
      rw [c2, s2, ea, eb]
      refine v_ca rfl ?_
      refine c_doesPair hr2 ho1 hok (fun D3 S2 e hf3 hr3 => ?_) (fun e => ?_)
      · have ih := ih (p + 1) S2 D3 (by omega) (p_dy_s hd e) (p_do_ok ho1 hok e).1 (hf2.trans (mdA hf3)) hr3
        rw [← nI_1] at ih
        refine v_go rfl ?_
        refine v_bF rfl (by decide) ?_
        exact v_run 5 rfl ih
      · have e1 := p_dy_w (p_dy_n hd e) q
        rw [show p + 1 + q = m by omega] at e1
        have fin := fin S1 (some p) (some (.int (nI (p + 1)))) D2 e1 ho1 (fun p' e => by cases e; omega) hf2 hr2
        rw [← nI_1] at fin
        refine v_go rfl ?_
        refine v_bT rfl rfl ?_
        refine v_go rfl ?_
        rw [nI_1]
        by_cases g : m ≤ p + 1
        · refine v_bT rfl (nI_le g (by omega)) ?_
          rw [nI_1] at fin
          exact fin
        · refine v_bF rfl (nI_ge (by omega) (by omega)) ?_
          rw [nI_1] at fin
          refine v_go rfl ?_
          refine v_bT rfl (nI_pos' (by omega)) ?_
          exact fin
  refine v_in (tb' := t_X5_dayOf) (rk' := 1) rfl rfl rfl ?_
  exact v_run 4 rfl (key m 0 S D (by omega) rfl ho (m_fM.refl _ _ _) hr)
theorem c_cellsBarred {L d k : Nat} {y i : Int32} {w : Int64} {s : Option (Nat × Nat × (Nat → Int32))} {D : m_D} {Q : m_K} (hk : k < 4) (hs : shM k D s) (h60 : ∀ la n f, s = some (la, n, f) → n ≤ 60) (hw : w.toInt < 2 ^ 40 ∧ -2 ^ 40 < w.toInt) (hN : s = none → Q (some (.int (-10 - 1))) (m_up D 34 0 1)) (hC : ∀ la n f, s = some (la, n, f) → ¬ nI la = y → Q (some (.int (-10 - 2))) (m_up D 34 0 2)) (hZ : ∀ la n f, s = some (la, n, f) → nI la = y → w.toInt < 0 → Q (some (.int (-10 - 4))) (m_up D 34 0 4)) (hX : ∀ la n f, s = some (la, n, f) → nI la = y → 0 ≤ w.toInt → ¬ rng i w.toInt n → Q (some (.int (-10 - 3))) (m_up D 34 0 3)) (hO : ∀ la n f, s = some (la, n, f) → nI la = y → rng i w.toInt n → Q (some (.int 0)) D) : m_call L (d + 2) 106 [.ref 34, .int (nI k), .int y, .int i, .long w] D Q := by
  have hin : vp_in (nI k) 4 := vp_in_nI (by omega) (by omega)
  have hck : (nI k).toNatClampNeg = k := nI_clamp (by omega)
  have wl : (0 : Int64) ≤ w ↔ 0 ≤ w.toInt := by
    rw [Int64.le_iff_toInt_le]
    rfl
  refine v_in (tb' := t_X5_cellsBarred) (rk' := 1) rfl rfl rfl ?_
  match s, hs, h60, hN, hC, hZ, hX, hO with
  | none, hs, h60, hN, hC, hZ, hX, hO =>
    have hs : D 56 k = -1 := hs
    refine v_go rfl ?_
    refine v_sd rfl hin ?_
    rw [hck, hs]
    refine v_bT rfl (by decide) ?_
    refine v_go rfl ?_
    refine v_sd rfl hin ?_
    rw [hck, hs]
    refine v_bF rfl (by decide) ?_
    refine v_go rfl ?_
    refine v_ca rfl ?_
    refine c_failed ?_
    exact v_rt rfl trivial (hN rfl)
  | some (la, n, f), hs, h60, hN, hC, hZ, hX, hO =>
    have hn := h60 la n f rfl
    obtain ⟨s1, s2, s3⟩ := hs
    refine v_go rfl ?_
    refine v_sd rfl hin ?_
    rw [hck, s1]
    refine v_bF rfl (nI_pos (by omega)) ?_
    refine v_go rfl ?_
    refine v_sd rfl hin ?_
    rw [hck, s2]
    refine v_go rfl ?_
    refine v_br rfl (fun z => ?_) (fun z => ?_)
    · refine v_go rfl ?_
      refine v_sd rfl hin ?_
      rw [hck, s1]
      refine v_bT rfl (nI_pos' (by omega)) ?_
      refine v_go rfl ?_
      refine v_br rfl (fun z2 => ?_) (fun z2 => ?_)
      · have z2 := wl.mp ((lg_cmp_ge _ _).mp z2)
        refine v_go rfl ?_
        refine v_sd rfl hin ?_
        rw [hck, s1]
        refine v_ca rfl ?_
        refine c_isBeyond hn hw (fun z3 => ?_) (fun z3 => ?_)
        · refine v_go rfl ?_
          refine v_bT rfl rfl ?_
          exact v_go rfl (v_rt rfl trivial (hO la n f rfl z z3))
        · refine v_go rfl ?_
          refine v_bF rfl (by decide) ?_
          refine v_go rfl ?_
          refine v_ca rfl ?_
          refine c_failed ?_
          exact v_go rfl (v_rt rfl trivial (hX la n f rfl z z2 z3))
      · have z2 : w.toInt < 0 := by
          apply Decidable.byContradiction
          intro q
          exact z2 ((lg_cmp_ge _ _).mpr (wl.mpr (by omega)))
        refine v_go rfl ?_
        refine v_ca rfl ?_
        refine c_failed ?_
        exact v_rt rfl trivial (hZ la n f rfl z z2)
    · refine v_go rfl ?_
      refine v_ca rfl ?_
      refine c_failed ?_
      exact v_rt rfl trivial (hC la n f rfl z)
