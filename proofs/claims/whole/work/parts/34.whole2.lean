/-! ===== whole, the reference's side ===== -/
abbrev z_MT : List Nat := [35, 39, 40, 46, 47, 48, 49, 50, 51, 52, 53]
theorem InvM_MT {Z : ZS} {D D' : m_D} (h : InvM Z D) (hr : relM D' Z.1) (hf : m_fM z_MT [22] D D') : InvM Z D' := by
  obtain ⟨S, rd, sh, tr, fl⟩ := Z
  exact InvM_S h hr (fun a ha => hf.1 a (by
    simp only [z_MT, List.mem_cons, List.not_mem_nil, or_false]
    omega) (by omega)) (fun j hj => hf.2 j (by
    simp only [List.mem_cons, List.not_mem_nil, or_false] at hj ⊢
    omega))
theorem frM_MT {D D' : m_D} (hf : m_fM z_MT [22] D D') : frM D D' := frM.of hf (by decide)
theorem mtR {D D' : m_D} (hf : m_fM z_R [22] D D') : m_fM z_MT [22] D D' := hf.sub (by simp) (by simp)
theorem mtB {D D' : m_D} (hf : m_fM [39] [] D D') : m_fM z_MT [22] D D' := hf.sub (by simp) (by simp)
theorem mtK {D D' : m_D} (hf : m_fM [51, 52, 53] [] D D') : m_fM z_MT [22] D D' := hf.sub (by simp) (by simp)
theorem mtV {D D' : m_D} (hf : m_fM [35, 39, 40] [] D D') : m_fM z_MT [22] D D' := hf.sub (by simp) (by simp)
theorem y_whole {L : Nat} {x : Int32} {S : SH} {D : m_D} {Q : m_K} (hr : relM D S) (ho : okS S) (hx : x = -1 ∨ vp_in x 3) (hn : S.1 ≠ 0) (hk : S.2.1 ≠ 0) (h : ∀ D', m_fM z_MT [22] D D' → relM D' S → Q (some (.int (sp_whole S x))) D') : m_call L 8 135 [.ref 34, .int x] D Q := by
  have hn6 := ho.1
  have hk3 := ho.2.1
  have hnb := p_nb_lt ho
  have hx2 := (m1_3l x).mpr hx
  have r2 : D 34 2 = nI S.2.1 := hr.2.1
  have fin : ∀ (z w : Option Value) (D1 : m_D), m_fM z_MT [22] D D1 → trM S D1 → relH D1 S → m_V L 7 Q t_X5_whole 1 (111, [some (.ref 34), some (.int x), some (.int (nI (p_cnt (p_w S) (p_nb S)))), some (.int (oI (p_fst (p_w S) (p_nb S)))), z, w], [], D1) := by
    intro z w D1 hf ht hh
    refine v_go rfl ?_
    refine v_ca rfl ?_
    refine c_bringT ht ho hh (fun D2 hf2 hr2 => ?_)
    have h := h D2 (hf.trans (mtV hf2)) hr2
    unfold sp_whole at h
    refine v_go rfl ?_
    by_cases e : x = -1
    · rw [if_pos e] at h
      refine v_bF rfl (by rw [e]; decide) ?_
      exact v_go rfl (v_rt rfl trivial h)
    · rw [if_neg e] at h
      have hv := hx.resolve_left e
      obtain ⟨c, hc, rfl⟩ := vp_in_of hv (by omega)
      have hcl : (nI c).toNatClampNeg = c := nI_clamp (by omega)
      refine v_bT rfl (nI_pos' (by omega)) ?_
      refine v_go rfl ?_
      cases hq : p_fst (p_w S) (p_nb S) with
      | none =>
        rw [hq] at h
        refine v_bT rfl (by decide) ?_
        exact v_go rfl (v_rt rfl trivial h)
      | some b =>
        rw [hq] at h
        have hb := p_fst_lt _ _ _ hq
        have h : Q (some (.int (if (nI c).toNatClampNeg < S.2.1 then nI (p_dig S b (nI c).toNatClampNeg) else -9))) D2 := h
        rw [hcl] at h
        refine v_bF rfl (nI_pos (by omega)) ?_
        refine v_go rfl ?_
        refine v_ca rfl ?_
        refine c_noCrier hr2.2.1 (by omega) (fun zc => ?_) (fun zc => ?_)
        · have hc2 : c < S.2.1 := by
            obtain ⟨c', hc', e'⟩ := vp_in_of zc (by omega)
            have := (nI_eq (by omega) (by omega)).mp e'
            omega
          rw [if_pos hc2] at h
          refine v_go rfl ?_
          refine v_bT rfl rfl ?_
          refine v_go rfl ?_
          refine v_ca rfl ?_
          refine c_startInM hr2 ho hn (by omega) hc2 ?_
          exact v_rt rfl trivial h
        · rw [if_neg (fun z2 => zc (vp_in_nI z2 (by omega)))] at h
          refine v_go rfl ?_
          refine v_bF rfl (by decide) ?_
          exact v_go rfl (v_rt rfl trivial h)
  have key : ∀ (i m : Nat) (w : Option Value) (D1 : m_D), i + m = p_nb S → m_fM z_MT [22] D D1 → trM S D1 → relH D1 S → m_V L 7 Q t_X5_whole 1 (44, [some (.ref 34), some (.int x), some (.int (nI (p_cntR (p_w S) i m))), some (.int (oI (p_fstR (p_w S) i m))), some (.int (nI i - 1)), w], [], D1) := by
    intro i
    induction i with
    | zero =>
      intro m w D1 hm hf ht hh
      have hm : m = p_nb S := by omega
      subst hm
      have e1 := p_cnt_R (p_w S) (p_nb S) 0
      have e2 := p_fst_R (p_w S) (p_nb S) 0 rfl
      rw [Nat.zero_add] at e1 e2
      have e1 : p_cnt (p_w S) (p_nb S) = p_cntR (p_w S) 0 (p_nb S) := by
        rw [e1]
        exact Nat.zero_add _
      rw [← e1, ← e2]
      refine v_go rfl ?_
      refine v_bT rfl (by decide) ?_
      exact fin _ _ D1 hf ht hh
    | succ i ih =>
      intro m w D1 hm hf ht hh
      rw [nI_pred]
      refine v_go rfl ?_
      refine v_bF rfl (nI_pos (by omega)) ?_
      refine v_go rfl ?_
      refine v_ca rfl ?_
      refine c_beginM ht hn (by omega) (fun D2 hf2 hr2 => ?_)
      refine v_go rfl ?_
      refine v_ca rfl ?_
      refine c_rains hr2 (okS_beg ho hn) (fun D3 hf3 hF => ?_)
      have hr3 := relM_keep hf3 (by decide) (by decide) hr2
      have hh3 : relH D3 S := relH_keep (relH_keep hh hf2 (by decide)) hf3 (by decide)
      have ih := fun w => ih (m + 1) w D3 (by omega) ((hf.trans (mtB hf2)).trans (mtR hf3)) (trM_b hr3 ho hn) hh3
      rw [← nI_m1] at ih
      have ec : p_cntR (p_w S) i (m + 1) = (if p_w S i then 1 else 0) + p_cntR (p_w S) (i + 1) m := rfl
      have ef : p_fstR (p_w S) i (m + 1) = if p_w S i then some i else p_fstR (p_w S) (i + 1) m := rfl
      rw [ec, ef, Nat.add_comm] at ih
      have ew : p_w S i = decide (p_hang (begS S i) S.1 = 0 ∧ p_mud (begS S i) S.1 = 0) := rfl
      refine v_go rfl ?_
      refine v_ca rfl ?_
      refine c_hang (S := begS S i) hr3.1 hn6 (fun l hl => (hF.1 l hl).1) ?_
      have no : p_w S i = false → m_V L 7 Q t_X5_whole 1 (77, [some (.ref 34), some (.int x), some (.int (nI (p_cntR (p_w S) (i + 1) m))), some (.int (oI (p_fstR (p_w S) (i + 1) m))), some (.int (nI i)), w], [], D3) := by
        intro ew
        have a0 : nI (p_cntR (p_w S) (i + 1) m + 0) = nI (p_cntR (p_w S) (i + 1) m) + 0 := (Int32.add_zero _).symm
        rw [ew, if_neg (by decide), if_neg (by decide), a0] at ih
        refine v_go rfl ?_
        refine v_bT rfl rfl ?_
        refine v_go rfl ?_
        refine v_bT rfl rfl ?_
        exact v_run 4 rfl (ih _)
      refine v_go rfl ?_
      by_cases g1 : p_hang (begS S i) S.1 = 0
      · refine v_bF rfl (fun z => z g1) ?_
        refine v_go rfl ?_
        refine v_ca rfl ?_
        refine c_mud (S := begS S i) hr3.1 hn6 hk3 (fun l hl => ⟨(hF.1 l hl).1, (hF.1 l hl).2.1⟩) ?_
        refine v_go rfl ?_
        by_cases g2 : p_mud (begS S i) S.1 = 0
        · have ew : p_w S i = true := by rw [ew]; exact decide_eq_true ⟨g1, g2⟩
          refine v_bF rfl (fun z => z g2) ?_
          rw [ew, if_pos rfl, if_pos rfl, ← nI_1] at ih
          refine v_go rfl ?_
          refine v_bF rfl (by decide) ?_
          refine v_go rfl ?_
          refine v_bF rfl (by decide) ?_
          exact v_run 5 rfl (ih _)
        · refine v_bT rfl g2 ?_
          exact no (by rw [ew]; exact decide_eq_false (fun z => g2 z.2))
      · refine v_bT rfl g1 ?_
        exact no (by rw [ew]; exact decide_eq_false (fun z => g1 z.1))
  refine v_in (tb' := t_X5_whole) (rk' := 1) rfl rfl rfl ?_
  refine v_go rfl ?_
  refine v_ca rfl ?_
  refine c_in (fun _ _ => ?_) (fun z => absurd hx2 z)
  refine v_go rfl ?_
  refine v_bT rfl (by decide) ?_
  refine v_go rfl ?_
  rw [r2]
  refine v_bT rfl (nI_ne0 (by omega) (by omega)) ?_
  refine v_go rfl ?_
  refine v_ca rfl ?_
  refine c_keeps hr ho (fun D1 hf1 hh1 => ?_)
  have hr1 := relM_keep hf1 (by decide) (by decide) hr
  refine v_go rfl ?_
  refine v_ca rfl ?_
  refine c_beginningsM hr1 ho ?_
  exact v_run 3 rfl (key (p_nb S) 0 none D1 (by omega) (mtK hf1) (trM_0 hr1 ho) hh1)
theorem s_whole (x : Int32) : StepI 44 135 [.int x] := by
  intro L Z hz
  obtain ⟨S, rd, sh, tr, fl⟩ := Z
  have hoS : okS S := hz.1
  have hn6 : S.1 ≤ 6 := hoS.1
  have hnk : S.1 = 0 ↔ S.2.1 = 0 := hz.2.1
  have hk3 : S.2.1 ≤ 3 := hoS.2.1
  by_cases hx : x = -1 ∨ vp_in x 3
  · by_cases hn : S.1 = 0
    · have hk : S.2.1 = 0 := hnk.mp hn
      have hx1 := (m1_3 x).mpr hx
      have hx2 := (m1_3l x).mpr hx
      refine ⟨-3, (S, rd, sh, tr, fl), hz, fun D Q hI h => ?_, fun D Q hI h => ?_⟩
      · refine v_in (tb' := t_X4_whole) (rk' := 1) rfl rfl rfl ?_
        refine v_go rfl ?_
        refine v_bF rfl hx1.1 ?_
        refine v_go rfl ?_
        refine v_bT rfl hx1.2 ?_
        refine v_go rfl ?_
        refine v_ca rfl ?_
        refine c_hasShower hI.1.1 hn6 (fun z => absurd hn z) (fun _ => ?_)
        refine v_go rfl ?_
        refine v_bF rfl (by decide) ?_
        exact v_go rfl (v_rt rfl trivial (h _ (frC.refl _) hI))
      · have r2 : D 34 2 = nI 0 := by rw [← hk]; exact hI.1.2.1
        refine v_in (tb' := t_X5_whole) (rk' := 1) rfl rfl rfl ?_
        refine v_go rfl ?_
        refine v_ca rfl ?_
        refine c_in (fun _ _ => ?_) (fun z => absurd hx2 z)
        refine v_go rfl ?_
        refine v_bT rfl (by decide) ?_
        refine v_go rfl ?_
        rw [r2]
        refine v_bF rfl (fun z => z rfl) ?_
        exact v_go rfl (v_rt rfl trivial (h _ (frM.refl _) hI))
    · have hk : S.2.1 ≠ 0 := fun z => hn (hnk.mpr z)
      refine ⟨sp_whole S x, (S, rd, sh, tr, fl), hz, fun D Q hI h => ?_, fun D Q hI h => ?_⟩
      · exact x_whole hI.1 hoS hx hn (fun D' hf => h D' (frC_FT hf) (InvC_FT hI hf))
      · exact y_whole hI.1 hoS hx hn hk (fun D' hf hr => h D' (frM_MT hf) (InvM_MT hI hr hf))
  · refine ⟨-2, (S, rd, sh, tr, fl), hz, fun D Q hI h => ?_, fun D Q hI h => ?_⟩
    · refine v_in (tb' := t_X4_whole) (rk' := 1) rfl rfl rfl ?_
      refine v_go rfl ?_
      refine v_br rfl (fun z => ?_) (fun z => ?_)
      · exact v_go rfl (v_rt rfl trivial (h _ (frC.refl _) hI))
      · refine v_go rfl ?_
        refine v_bF rfl (fun z2 => hx ((m1_3 x).mp ⟨z, z2⟩)) ?_
        exact v_go rfl (v_rt rfl trivial (h _ (frC.refl _) hI))
    · refine v_in (tb' := t_X5_whole) (rk' := 1) rfl rfl rfl ?_
      refine v_go rfl ?_
      refine v_ca rfl ?_
      refine c_in (fun z1 z2 => absurd ((m1_3l x).mp ⟨z1, z2⟩) hx) (fun _ => ?_)
      refine v_go rfl ?_
      refine v_bF rfl (by decide) ?_
      exact v_go rfl (v_rt rfl trivial (h _ (frM.refl _) hI))
