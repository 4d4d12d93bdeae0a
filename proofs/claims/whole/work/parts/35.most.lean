/-! ===== how wet at most; most ===== -/
theorem p_give_le {kd dr : Nat} (h : dr ≤ 9) : p_give kd dr ≤ 17 := by
  unfold p_give
  split
  · omega
  · omega
  · omega
theorem p_amt_le {S : SH} (ho : okS S) {l : Nat} (hl : l < S.1) : p_amt S l ≤ 17 := by
  unfold p_amt
  split
  · omega
  · exact p_give_le (ho.2.2.1 l hl).1
theorem p_wet_le {S : SH} (ho : okS S) (f : Nat) : ∀ l, l ≤ S.1 → p_wet S f l ≤ 17 * l
  | 0, _ => Nat.le_refl _
  | l + 1, h => by
    have h1 := p_wet_le ho f l (by omega)
    have h2 := p_amt_le ho (l := l) (by omega)
    have e : p_wet S f (l + 1) = p_wet S f l + (if p_dst S l = some f then p_amt S l else 0) := rfl
    rw [e]
    split <;> omega
theorem p_wet_102 {S : SH} (ho : okS S) (f : Nat) : p_wet S f S.1 ≤ 102 := by
  have h := p_wet_le ho f S.1 (Nat.le_refl _)
  have := ho.1
  omega
theorem p_all_le {S : SH} (ho : okS S) : p_all S ≤ 408 := by
  have h0 := p_wet_102 ho 0
  have h1 := p_wet_102 ho 1
  have h2 := p_wet_102 ho 2
  have h3 := p_wet_102 ho 3
  unfold p_all
  omega
def p_mx (w : Nat → Nat) : Nat → Option (Nat × Nat)
  | 0 => none
  | n + 1 => match p_mx w n with
    | none => some (w n, n)
    | some (g, b) => if g < w n then some (w n, n) else some (g, b)
def mxI : Option (Nat × Nat) → Int32
  | none => -1
  | some (g, _) => nI g
def mxF : Option (Nat × Nat) → Option Nat
  | none => none
  | some (_, b) => some b
theorem p_mx_ok (w : Nat → Nat) {B : Nat} (hw : ∀ i, w i ≤ B) : ∀ n g b, p_mx w n = some (g, b) → g ≤ B ∧ b < n
  | 0, g, b, h => by cases h
  | n + 1, g, b, h => by
    have h : (match p_mx w n with
      | none => some (w n, n)
      | some (g, b) => if g < w n then some (w n, n) else some (g, b)) = some (g, b) := h
    cases e : p_mx w n with
    | none =>
      rw [e] at h
      cases h
      exact ⟨hw _, by omega⟩
    | some q =>
      obtain ⟨g', b'⟩ := q
      rw [e] at h
      have h1 := p_mx_ok w hw n g' b' e
      dsimp only at h
      split at h
      · cases h
        exact ⟨hw _, by omega⟩
      · cases h
        exact ⟨h1.1, by omega⟩
theorem p_mx_some (w : Nat → Nat) : ∀ n, n ≠ 0 → ∃ g b, p_mx w n = some (g, b)
  | 0, h => absurd rfl h
  | n + 1, _ => by
    have h : p_mx w (n + 1) = (match p_mx w n with
      | none => some (w n, n)
      | some (g, b) => if g < w n then some (w n, n) else some (g, b)) := rfl
    rw [h]
    cases e : p_mx w n with
    | none => exact ⟨_, _, rfl⟩
    | some q =>
      obtain ⟨g', b'⟩ := q
      dsimp only
      split
      · exact ⟨_, _, rfl⟩
      · exact ⟨_, _, rfl⟩
theorem mx_step (w : Nat → Nat) {n : Nat} (hw : ∀ i, w i ≤ 408) : (¬ nI (w n) ≤ mxI (p_mx w n) ∧ p_mx w (n + 1) = some (w n, n)) ∨ (nI (w n) ≤ mxI (p_mx w n) ∧ p_mx w (n + 1) = p_mx w n) := by
  have h : p_mx w (n + 1) = (match p_mx w n with
    | none => some (w n, n)
    | some (g, b) => if g < w n then some (w n, n) else some (g, b)) := rfl
  have hn := hw n
  rw [h]
  cases e : p_mx w n with
  | none =>
    refine Or.inl ⟨?_, rfl⟩
    show ¬ nI (w n) ≤ -1
    rw [Int32.le_iff_toInt_le, nI_toInt (by omega)]
    have e1 : (-1 : Int32).toInt = -1 := by decide
    rw [e1]
    omega
  | some q =>
    obtain ⟨g', b'⟩ := q
    have h1 := p_mx_ok w hw n g' b' e
    dsimp only
    by_cases hg : g' < w n
    · rw [if_pos hg]
      exact Or.inl ⟨nI_ge hg (by omega), rfl⟩
    · rw [if_neg hg]
      exact Or.inr ⟨nI_le (by omega) (by omega), rfl⟩
def p_aw (S : SH) (b : Nat) : Nat := p_all (begS S b)
theorem p_aw_le {S : SH} (ho : okS S) (hn : S.1 ≠ 0) (b : Nat) : p_aw S b ≤ 408 := p_all_le (okS_beg ho hn)
theorem p_nb_0 {S : SH} (hn : S.1 ≠ 0) : p_nb S ≠ 0 := by
  have := Nat.pow_pos (n := S.2.1) (show 0 < S.1 by omega)
  unfold p_nb
  omega
def sp_most (S : SH) (x : Int32) : Int32 := if x = -1 then mxI (p_mx (p_aw S) (p_nb S)) else p_st S x (mxF (p_mx (p_aw S) (p_nb S)))
theorem x_most {L : Nat} {x : Int32} {S : SH} {D : m_D} {Q : m_K} (hr : relC 1 D S) (ho : okS S) (hx : x = -1 ∨ vp_in x 3) (hn : S.1 ≠ 0) (h : ∀ D', m_fr z_FT D D' → Q (some (.int (sp_most S x))) D') : m_call L 8 45 [.ref 0, .int x] D Q := by
  have hn6 := ho.1
  have hnb := p_nb_lt ho
  have hx2 := (m1_3 x).mpr hx
  have fin : ∀ (D1 : m_D), m_fr z_FT D D1 → trB S D1 → m_V L 7 Q t_X4_most 1 (106, [some (.ref 0), some (.int x), some (.int (nI (p_nb S))), some (.int (mxI (p_mx (p_aw S) (p_nb S)))), some (.int (oI (mxF (p_mx (p_aw S) (p_nb S))))), some (.int (nI (p_nb S)))], [], D1) := by
    intro D1 hf ht
    refine v_go rfl ?_
    by_cases e : x = -1
    · refine v_bF rfl (fun z => z e) ?_
      have h := h D1 hf
      unfold sp_most at h
      rw [if_pos e] at h
      exact v_go rfl (v_rt rfl trivial h)
    · refine v_bT rfl e ?_
      refine v_go rfl ?_
      refine v_ca rfl ?_
      refine c_trialStart _ (relC_FT hf hr) ht ho hn (fun b hb => ?_) (hx.resolve_left e) (fun D2 hf2 => ?_)
      · cases hq : p_mx (p_aw S) (p_nb S) with
        | none =>
          rw [hq] at hb
          cases hb
        | some q =>
          obtain ⟨g', b'⟩ := q
          rw [hq] at hb
          cases hb
          have := (p_mx_ok (p_aw S) (p_aw_le ho hn) _ _ _ hq).2
          omega
      · have h := h D2 (hf.trans (hf2.sub (by simp)))
        unfold sp_most at h
        rw [if_neg e] at h
        exact v_rt rfl trivial h
  have key : ∀ (m b : Nat) (D1 : m_D), b + m = p_nb S → m_fr z_FT D D1 → trB S D1 → m_V L 7 Q t_X4_most 1 (51, [some (.ref 0), some (.int x), some (.int (nI (p_nb S))), some (.int (mxI (p_mx (p_aw S) b))), some (.int (oI (mxF (p_mx (p_aw S) b)))), some (.int (nI b))], [], D1) := by
    intro m
    induction m with
    | zero =>
      intro b D1 hm hf ht
      have hm : b = p_nb S := by omega
      subst hm
      refine v_go rfl ?_
      refine v_bT rfl (Int32.le_refl _) ?_
      exact fin D1 hf ht
    | succ m ih =>
      intro b D1 hm hf ht
      refine v_go rfl ?_
      refine v_bF rfl (nI_ge (by omega) (by omega)) ?_
      refine v_go rfl ?_
      refine v_ca rfl ?_
      refine c_beginT ht hn (by omega) (fun D2 hf2 hr2 => ?_)
      refine v_go rfl ?_
      refine v_ca rfl ?_
      refine c_workOut (Or.inr rfl) hr2 (okS_beg ho hn) (fun D3 hf3 hF => ?_)
      have ih := ih (b + 1) D3 (by omega) ((hf.trans (hf2.sub (by simp))).trans (fF hf3)) (trB_F hf3 hr2 ho hn)
      rw [← nI_1] at ih
      refine v_go rfl ?_
      refine v_ca rfl ?_
      refine c_wetAll (S := begS S b) hF.2.2.1 ?_
      refine v_go rfl ?_
      rcases mx_step (p_aw S) (n := b) (p_aw_le ho hn) with ⟨g1, g2⟩ | ⟨g1, g2⟩
      · rw [g2] at ih
        refine v_bF rfl g1 ?_
        refine v_go rfl ?_
        refine v_ca rfl ?_
        refine c_wetAll (S := begS S b) hF.2.2.1 ?_
        exact v_run 5 rfl ih
      · rw [g2] at ih
        refine v_bT rfl g1 ?_
        exact v_run 2 rfl ih
  refine v_in (tb' := t_X4_most) (rk' := 1) rfl rfl rfl ?_
  refine v_go rfl ?_
  refine v_bF rfl hx2.1 ?_
  refine v_go rfl ?_
  refine v_bT rfl hx2.2 ?_
  refine v_go rfl ?_
  refine v_ca rfl ?_
  refine c_hasShower hr.1 hn6 (fun _ => ?_) (fun z => absurd z hn)
  refine v_go rfl ?_
  refine v_bT rfl (by decide) ?_
  refine v_go rfl ?_
  refine v_ca rfl ?_
  refine c_become hr ho (fun D1 hf1 hr1 => ?_)
  refine v_go rfl ?_
  refine v_ca rfl ?_
  refine c_beginnings (relC_FT (fT hf1) hr) ho ?_
  exact v_run 7 rfl (key (p_nb S) 0 D1 (by omega) (fT hf1) (trB_0 hr1 ho))
theorem y_most {L : Nat} {x : Int32} {S : SH} {D : m_D} {Q : m_K} (hr : relM D S) (ho : okS S) (hx : x = -1 ∨ vp_in x 3) (hn : S.1 ≠ 0) (hk : S.2.1 ≠ 0) (h : ∀ D', m_fM z_MT [22] D D' → relM D' S → Q (some (.int (sp_most S x))) D') : m_call L 8 136 [.ref 34, .int x] D Q := by
  have hn6 := ho.1
  have hk3 := ho.2.1
  have hnb := p_nb_lt ho
  have hx2 := (m1_3l x).mpr hx
  have r2 : D 34 2 = nI S.2.1 := hr.2.1
  have fin : ∀ (z : Option Value) (D1 : m_D), m_fM z_MT [22] D D1 → trM S D1 → relH D1 S → m_V L 7 Q t_X5_most 1 (96, [some (.ref 34), some (.int x), some (.int (mxI (p_mx (p_aw S) (p_nb S)))), some (.int (oI (mxF (p_mx (p_aw S) (p_nb S))))), z], [], D1) := by
    intro z D1 hf ht hh
    refine v_go rfl ?_
    refine v_ca rfl ?_
    refine c_bringT ht ho hh (fun D2 hf2 hr2 => ?_)
    have h := h D2 (hf.trans (mtV hf2)) hr2
    unfold sp_most at h
    refine v_go rfl ?_
    by_cases e : x = -1
    · rw [if_pos e] at h
      refine v_bF rfl (by rw [e]; decide) ?_
      exact v_go rfl (v_rt rfl trivial h)
    · rw [if_neg e] at h
      have hv := hx.resolve_left e
      obtain ⟨c, hc, rfl⟩ := vp_in_of hv (by omega)
      have hcl : (nI c).toNatClampNeg = c := nI_clamp (by omega)
      obtain ⟨g, b, hq⟩ := p_mx_some (p_aw S) (p_nb S) (p_nb_0 hn)
      have hb := (p_mx_ok (p_aw S) (p_aw_le ho hn) _ _ _ hq).2
      rw [hq] at h ⊢
      have h : Q (some (.int (if (nI c).toNatClampNeg < S.2.1 then nI (p_dig S b (nI c).toNatClampNeg) else -9))) D2 := h
      rw [hcl] at h
      refine v_bT rfl (nI_pos' (by omega)) ?_
      refine v_go rfl ?_
      refine v_ca rfl ?_
      refine c_noCrier hr2.2.1 (by omega) (fun zc => ?_) (fun zc => ?_)
      · have hc2 : c < S.2.1 := by
          obtain ⟨c', hc', e'⟩ := vp_in_of zc (by omega)
          have := (nI_eq (by omega) (by omega)).mp e'
          omega
        rw [if_pos hc2] at h
        refine v_go rfl ?_
        refine v_bT rfl rfl ?_
        refine v_go rfl ?_
        refine v_ca rfl ?_
        refine c_startInM hr2 ho hn (by omega) hc2 ?_
        exact v_rt rfl trivial h
      · rw [if_neg (fun z2 => zc (vp_in_nI z2 (by omega)))] at h
        refine v_go rfl ?_
        refine v_bF rfl (by decide) ?_
        exact v_go rfl (v_rt rfl trivial h)
  have key : ∀ (m b : Nat) (D1 : m_D), b + m = p_nb S → m_fM z_MT [22] D D1 → trM S D1 → relH D1 S → m_V L 7 Q t_X5_most 1 (39, [some (.ref 34), some (.int x), some (.int (mxI (p_mx (p_aw S) b))), some (.int (oI (mxF (p_mx (p_aw S) b)))), some (.int (nI b))], [], D1) := by
    intro m
    induction m with
    | zero =>
      intro b D1 hm hf ht hh
      have hm : b = p_nb S := by omega
      subst hm
      obtain ⟨S1, hr1, ho1, e1, e2, -, -⟩ := id ht
      refine v_go rfl ?_
      refine v_ca rfl ?_
      refine c_beginningsM hr1 ho1 ?_
      refine v_go rfl ?_
      have e3 : p_nb S1 = p_nb S := by
        unfold p_nb
        rw [e1, e2]
      rw [e3]
      refine v_bT rfl (Int32.le_refl _) ?_
      exact fin _ D1 hf ht hh
    | succ m ih =>
      intro b D1 hm hf ht hh
      obtain ⟨S1, hr1, ho1, e1, e2, -, -⟩ := id ht
      refine v_go rfl ?_
      refine v_ca rfl ?_
      refine c_beginningsM hr1 ho1 ?_
      refine v_go rfl ?_
      have e3 : p_nb S1 = p_nb S := by
        unfold p_nb
        rw [e1, e2]
      rw [e3]
      refine v_bF rfl (nI_ge (by omega) (by omega)) ?_
      refine v_go rfl ?_
      refine v_ca rfl ?_
      refine c_beginM ht hn (by omega) (fun D2 hf2 hr2 => ?_)
      refine v_go rfl ?_
      refine v_ca rfl ?_
      refine c_rains hr2 (okS_beg ho hn) (fun D3 hf3 hF => ?_)
      have hr3 := relM_keep hf3 (by decide) (by decide) hr2
      have hh3 : relH D3 S := relH_keep (relH_keep hh hf2 (by decide)) hf3 (by decide)
      have ih := ih (b + 1) D3 (by omega) ((hf.trans (mtB hf2)).trans (mtR hf3)) (trM_b hr3 ho hn) hh3
      rw [← nI_1] at ih
      refine v_go rfl ?_
      refine v_ca rfl ?_
      refine c_wetAllM (S := begS S b) hF.2.2.1 ?_
      refine v_go rfl ?_
      rcases mx_step (p_aw S) (n := b) (p_aw_le ho hn) with ⟨g1, g2⟩ | ⟨g1, g2⟩
      · rw [g2] at ih
        refine v_bF rfl g1 ?_
        refine v_go rfl ?_
        refine v_ca rfl ?_
        refine c_wetAllM (S := begS S b) hF.2.2.1 ?_
        refine v_go rfl ?_
        refine v_bF rfl g1 ?_
        refine v_go rfl ?_
        refine v_ca rfl ?_
        refine c_wetAllM (S := begS S b) hF.2.2.1 ?_
        exact v_run 4 rfl ih
      · rw [g2] at ih
        refine v_bT rfl g1 ?_
        refine v_go rfl ?_
        refine v_ca rfl ?_
        refine c_wetAllM (S := begS S b) hF.2.2.1 ?_
        refine v_go rfl ?_
        refine v_bT rfl g1 ?_
        exact v_run 4 rfl ih
  refine v_in (tb' := t_X5_most) (rk' := 1) rfl rfl rfl ?_
  refine v_go rfl ?_
  refine v_ca rfl ?_
  refine c_in (fun _ _ => ?_) (fun z => absurd hx2 z)
  refine v_go rfl ?_
  refine v_bT rfl (by decide) ?_
  refine v_go rfl ?_
  rw [r2]
  refine v_bT rfl (nI_ne0 (by omega) (by omega)) ?_
  refine v_go rfl ?_
  refine v_ca rfl ?_
  refine c_keeps hr ho (fun D1 hf1 hh1 => ?_)
  have hr1 := relM_keep hf1 (by decide) (by decide) hr
  exact v_run 6 rfl (key (p_nb S) 0 D1 (by omega) (mtK hf1) (trM_0 hr1 ho) hh1)
theorem s_most (x : Int32) : StepI 45 136 [.int x] := by
  intro L Z hz
  obtain ⟨S, rd, sh, tr, fl⟩ := Z
  have hoS : okS S := hz.1
  have hn6 : S.1 ≤ 6 := hoS.1
  have hnk : S.1 = 0 ↔ S.2.1 = 0 := hz.2.1
  have hk3 : S.2.1 ≤ 3 := hoS.2.1
  by_cases hx : x = -1 ∨ vp_in x 3
  · by_cases hn : S.1 = 0
    · have hk : S.2.1 = 0 := hnk.mp hn
      have hx1 := (m1_3 x).mpr hx
      have hx2 := (m1_3l x).mpr hx
      refine ⟨-3, (S, rd, sh, tr, fl), hz, fun D Q hI h => ?_, fun D Q hI h => ?_⟩
      · refine v_in (tb' := t_X4_most) (rk' := 1) rfl rfl rfl ?_
        refine v_go rfl ?_
        refine v_bF rfl hx1.1 ?_
        refine v_go rfl ?_
        refine v_bT rfl hx1.2 ?_
        refine v_go rfl ?_
        refine v_ca rfl ?_
        refine c_hasShower hI.1.1 hn6 (fun z => absurd hn z) (fun _ => ?_)
        refine v_go rfl ?_
        refine v_bF rfl (by decide) ?_
        exact v_go rfl (v_rt rfl trivial (h _ (frC.refl _) hI))
      · have r2 : D 34 2 = nI 0 := by rw [← hk]; exact hI.1.2.1
        refine v_in (tb' := t_X5_most) (rk' := 1) rfl rfl rfl ?_
        refine v_go rfl ?_
        refine v_ca rfl ?_
        refine c_in (fun _ _ => ?_) (fun z => absurd hx2 z)
        refine v_go rfl ?_
        refine v_bT rfl (by decide) ?_
        refine v_go rfl ?_
        rw [r2]
        refine v_bF rfl (fun z => z rfl) ?_
        exact v_go rfl (v_rt rfl trivial (h _ (frM.refl _) hI))
    · have hk : S.2.1 ≠ 0 := fun z => hn (hnk.mpr z)
      refine ⟨sp_most S x, (S, rd, sh, tr, fl), hz, fun D Q hI h => ?_, fun D Q hI h => ?_⟩
      · exact x_most hI.1 hoS hx hn (fun D' hf => h D' (frC_FT hf) (InvC_FT hI hf))
      · exact y_most hI.1 hoS hx hn hk (fun D' hf hr => h D' (frM_MT hf) (InvM_MT hI hr hf))
  · refine ⟨-2, (S, rd, sh, tr, fl), hz, fun D Q hI h => ?_, fun D Q hI h => ?_⟩
    · refine v_in (tb' := t_X4_most) (rk' := 1) rfl rfl rfl ?_
      refine v_go rfl ?_
      refine v_br rfl (fun z => ?_) (fun z => ?_)
      · exact v_go rfl (v_rt rfl trivial (h _ (frC.refl _) hI))
      · refine v_go rfl ?_
        refine v_bF rfl (fun z2 => hx ((m1_3 x).mp ⟨z, z2⟩)) ?_
        exact v_go rfl (v_rt rfl trivial (h _ (frC.refl _) hI))
    · refine v_in (tb' := t_X5_most) (rk' := 1) rfl rfl rfl ?_
      refine v_go rfl ?_
      refine v_ca rfl ?_
      refine c_in (fun z1 z2 => absurd ((m1_3l x).mp ⟨z1, z2⟩) hx) (fun _ => ?_)
      refine v_go rfl ?_
      refine v_bF rfl (by decide) ?_
      exact v_go rfl (v_rt rfl trivial (h _ (frM.refl _) hI))
