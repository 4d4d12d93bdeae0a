/-! ===== comes, wet, ofLine, ofCrier ===== -/
theorem InvC_F {Z : ZS} {D D' : m_D} (h : InvC Z D) (hf : m_fr z_F D D') : InvC Z D' := InvC_keep h (fun a ha => hf a (by
  simp only [z_F, List.mem_cons, List.not_mem_nil, or_false]
  omega))
theorem InvM_R {Z : ZS} {D D' : m_D} (h : InvM Z D) (hf : m_fM z_R [22] D D') : InvM Z D' := InvM_keep h (fun a ha => hf.1 a (by
  simp only [z_R, List.mem_cons, List.not_mem_nil, or_false]
  omega) (by omega)) (fun j hj => hf.2 j (by
  simp only [List.mem_cons, List.not_mem_nil, or_false] at hj ⊢
  omega))
theorem frC_F {D D' : m_D} (hf : m_fr z_F D D') : frC D D' := frC.of hf (by decide)
theorem frM_R {D D' : m_D} (hf : m_fM z_R [22] D D') : frM D D' := frM.of hf (by decide)
theorem s_comes (x y : Int32) : StepI 36 123 [.int x, .int y] := by
  intro L Z hz
  obtain ⟨S, rd, sh, tr, fl⟩ := Z
  have hoS : okS S := hz.1
  have hn6 : S.1 ≤ 6 := hoS.1
  have hnk : S.1 = 0 ↔ S.2.1 = 0 := hz.2.1
  have hk3 : S.2.1 ≤ 3 := hoS.2.1
  by_cases hx : vp_in x 4
  · by_cases hy : vp_in y 6
    · by_cases hn : S.1 = 0
      · have hk : S.2.1 = 0 := hnk.mp hn
        refine ⟨-3, (S, rd, sh, tr, fl), hz, fun D Q hI h => ?_, fun D Q hI h => ?_⟩
        · refine v_in (tb' := t_X4_comes) (rk' := 1) rfl rfl rfl ?_
          refine v_go rfl ?_
          refine v_ca rfl ?_
          refine c_isHour (fun _ => ?_) (fun z => absurd hy z)
          refine v_ca rfl ?_
          refine c_refusalOf hI.1.1 hn6 (fun z => absurd hx z) (fun _ z => absurd z (by decide)) (fun _ _ _ => ?_) (fun _ _ z => absurd hn z)
          refine v_go rfl ?_
          refine v_bF rfl (by decide) ?_
          exact v_go rfl (v_rt rfl trivial (h _ (frC.refl _) hI))
        · have r2 : D 34 2 = nI 0 := by rw [← hk]; exact hI.1.2.1
          refine v_in (tb' := t_X5_comes) (rk' := 1) rfl rfl rfl ?_
          refine v_go rfl ?_
          refine v_ca rfl ?_
          refine c_noField (fun _ => ?_) (fun z => absurd hx z)
          refine v_go rfl ?_
          refine v_bT rfl (by decide) ?_
          refine v_go rfl ?_
          refine v_ca rfl ?_
          refine c_isHourM (fun _ => ?_) (fun z => absurd hy z)
          refine v_go rfl ?_
          refine v_bT rfl (by decide) ?_
          refine v_go rfl ?_
          rw [r2]
          refine v_bF rfl (fun z => z rfl) ?_
          exact v_go rfl (v_rt rfl trivial (h _ (frM.refl _) hI))
      · have hk : S.2.1 ≠ 0 := fun z => hn (hnk.mpr z)
        obtain ⟨f, hf, rfl⟩ := vp_in_of hx (by omega)
        obtain ⟨t, ht, rfl⟩ := vp_in_of hy (by omega)
        have ei : nI f * 6 + nI t = nI (f * 6 + t) := by rw [show (6 : Int32) = nI 6 from rfl, pk_mul, nI_add]
        have ej : 6 * nI f + nI t = nI (f * 6 + t) := by rw [show (6 : Int32) = nI 6 from rfl, pk_mul, nI_add, Nat.mul_comm]
        have hci : (nI (f * 6 + t)).toNatClampNeg = f * 6 + t := nI_clamp (by omega)
        have hini : vp_in (nI (f * 6 + t)) 24 := vp_in_nI (by omega) (by omega)
        refine ⟨nI (p_came S f t S.1), (S, rd, sh, tr, fl), hz, fun D Q hI h => ?_, fun D Q hI h => ?_⟩
        · refine v_in (tb' := t_X4_comes) (rk' := 1) rfl rfl rfl ?_
          refine v_go rfl ?_
          refine v_ca rfl ?_
          refine c_isHour (fun _ => ?_) (fun z => absurd hy z)
          refine v_ca rfl ?_
          refine c_refusalOf hI.1.1 hn6 (fun z => absurd hx z) (fun _ z => absurd z (by decide)) (fun _ _ z => absurd z hn) (fun _ _ _ => ?_)
          refine v_go rfl ?_
          refine v_bT rfl rfl ?_
          refine v_go rfl ?_
          refine v_ca rfl ?_
          refine c_workOut (Or.inl rfl) hI.1 hoS (fun D2 hf2 hF => ?_)
          refine v_go rfl ?_
          rw [ei]
          refine v_sd rfl hini ?_
          rw [hci, hF.2.1 f t hf ht]
          exact v_rt rfl trivial (h _ (frC_F hf2) (InvC_F hI hf2))
        · have r2 : D 34 2 = nI S.2.1 := hI.1.2.1
          refine v_in (tb' := t_X5_comes) (rk' := 1) rfl rfl rfl ?_
          refine v_go rfl ?_
          refine v_ca rfl ?_
          refine c_noField (fun _ => ?_) (fun z => absurd hx z)
          refine v_go rfl ?_
          refine v_bT rfl (by decide) ?_
          refine v_go rfl ?_
          refine v_ca rfl ?_
          refine c_isHourM (fun _ => ?_) (fun z => absurd hy z)
          refine v_go rfl ?_
          refine v_bT rfl (by decide) ?_
          refine v_go rfl ?_
          rw [r2]
          refine v_bT rfl (nI_ne0 (by omega) (by omega)) ?_
          refine v_go rfl ?_
          refine v_ca rfl ?_
          refine c_rains hI.1 hoS (fun D2 hf2 hF => ?_)
          refine v_go rfl ?_
          rw [ej]
          refine v_sd rfl hini ?_
          rw [hci, hF.2.1 f t hf ht]
          exact v_rt rfl trivial (h _ (frM_R hf2) (InvM_R hI hf2))
    · refine ⟨-2, (S, rd, sh, tr, fl), hz, fun D Q hI h => ?_, fun D Q hI h => ?_⟩
      · refine v_in (tb' := t_X4_comes) (rk' := 1) rfl rfl rfl ?_
        refine v_go rfl ?_
        refine v_ca rfl ?_
        refine c_isHour (fun z => absurd z hy) (fun _ => ?_)
        refine v_ca rfl ?_
        refine c_refusalOf hI.1.1 hn6 (fun z => absurd hx z) (fun _ _ => ?_) (fun _ z => absurd rfl z) (fun _ z => absurd rfl z)
        refine v_go rfl ?_
        refine v_bF rfl (by decide) ?_
        exact v_go rfl (v_rt rfl trivial (h _ (frC.refl _) hI))
      · refine v_in (tb' := t_X5_comes) (rk' := 1) rfl rfl rfl ?_
        refine v_go rfl ?_
        refine v_ca rfl ?_
        refine c_noField (fun _ => ?_) (fun z => absurd hx z)
        refine v_go rfl ?_
        refine v_bT rfl (by decide) ?_
        refine v_go rfl ?_
        refine v_ca rfl ?_
        refine c_isHourM (fun z => absurd z hy) (fun _ => ?_)
        refine v_go rfl ?_
        refine v_bF rfl (by decide) ?_
        exact v_go rfl (v_rt rfl trivial (h _ (frM.refl _) hI))
  · refine ⟨-1, (S, rd, sh, tr, fl), hz, fun D Q hI h => ?_, fun D Q hI h => ?_⟩
    · refine v_in (tb' := t_X4_comes) (rk' := 1) rfl rfl rfl ?_
      refine v_go rfl ?_
      refine v_ca rfl ?_
      refine c_isHour (fun hy => ?_) (fun hy => ?_)
      all_goals
        refine v_ca rfl ?_
        refine c_refusalOf hI.1.1 hn6 (fun _ => ?_) (fun z => absurd z hx) (fun z => absurd z hx) (fun z => absurd z hx)
        refine v_go rfl ?_
        refine v_bF rfl (by decide) ?_
        exact v_go rfl (v_rt rfl trivial (h _ (frC.refl _) hI))
    · refine v_in (tb' := t_X5_comes) (rk' := 1) rfl rfl rfl ?_
      refine v_go rfl ?_
      refine v_ca rfl ?_
      refine c_noField (fun z => absurd z hx) (fun _ => ?_)
      refine v_go rfl ?_
      refine v_bF rfl (by decide) ?_
      exact v_go rfl (v_rt rfl trivial (h _ (frM.refl _) hI))
/-- how wet a field is now, in the reference -/
theorem c_wetNow {L d f : Nat} {S : SH} {D : m_D} {Q : m_K} (hr : relM D S) (ho : okS S) (hf : f < 4) (h : ∀ D', m_fM z_R [22] D D' → relR S S.1 D' → Q (some (.int (nI (p_wet S f S.1)))) D') : m_call L (d + 4) 124 [.ref 34, .int (nI f)] D Q := by
  have hcl : (nI f).toNatClampNeg = f := nI_clamp (by omega)
  have hin : vp_in (nI f) 4 := vp_in_nI (by omega) (by omega)
  refine v_in (tb' := t_X5_wetNow) (rk' := 1) rfl rfl rfl ?_
  refine v_go rfl ?_
  refine v_ca rfl ?_
  refine c_rains hr ho (fun D2 hf2 hF => ?_)
  refine v_go rfl ?_
  refine v_sd rfl hin ?_
  rw [hcl, hF.2.2.1 f hf]
  exact v_rt rfl trivial (h D2 hf2 hF)
theorem s_wet (x : Int32) : StepI 37 125 [.int x] := by
  intro L Z hz
  obtain ⟨S, rd, sh, tr, fl⟩ := Z
  have hoS : okS S := hz.1
  have hn6 : S.1 ≤ 6 := hoS.1
  have hnk : S.1 = 0 ↔ S.2.1 = 0 := hz.2.1
  have hk3 : S.2.1 ≤ 3 := hoS.2.1
  by_cases hx : vp_in x 4
  · by_cases hn : S.1 = 0
    · have hk : S.2.1 = 0 := hnk.mp hn
      refine ⟨-3, (S, rd, sh, tr, fl), hz, fun D Q hI h => ?_, fun D Q hI h => ?_⟩
      · refine v_in (tb' := t_X4_wet) (rk' := 1) rfl rfl rfl ?_
        refine v_go rfl ?_
        refine v_ca rfl ?_
        refine c_refusalOf hI.1.1 hn6 (fun z => absurd hx z) (fun _ z => absurd z (by decide)) (fun _ _ _ => ?_) (fun _ _ z => absurd hn z)
        refine v_go rfl ?_
        refine v_bF rfl (by decide) ?_
        exact v_go rfl (v_rt rfl trivial (h _ (frC.refl _) hI))
      · have r2 : D 34 2 = nI 0 := by rw [← hk]; exact hI.1.2.1
        refine v_in (tb' := t_X5_wet) (rk' := 1) rfl rfl rfl ?_
        refine v_go rfl ?_
        refine v_ca rfl ?_
        refine c_noField (fun _ => ?_) (fun z => absurd hx z)
        refine v_go rfl ?_
        refine v_bT rfl (by decide) ?_
        refine v_go rfl ?_
        rw [r2]
        refine v_bF rfl (fun z => z rfl) ?_
        exact v_go rfl (v_rt rfl trivial (h _ (frM.refl _) hI))
    · have hk : S.2.1 ≠ 0 := fun z => hn (hnk.mpr z)
      obtain ⟨f, hf, rfl⟩ := vp_in_of hx (by omega)
      have hcl : (nI f).toNatClampNeg = f := nI_clamp (by omega)
      refine ⟨nI (p_wet S f S.1), (S, rd, sh, tr, fl), hz, fun D Q hI h => ?_, fun D Q hI h => ?_⟩
      · refine v_in (tb' := t_X4_wet) (rk' := 1) rfl rfl rfl ?_
        refine v_go rfl ?_
        refine v_ca rfl ?_
        refine c_refusalOf hI.1.1 hn6 (fun z => absurd hx z) (fun _ z => absurd z (by decide)) (fun _ _ z => absurd z hn) (fun _ _ _ => ?_)
        refine v_go rfl ?_
        refine v_bT rfl rfl ?_
        refine v_go rfl ?_
        refine v_ca rfl ?_
        refine c_workOut (Or.inl rfl) hI.1 hoS (fun D2 hf2 hF => ?_)
        refine v_go rfl ?_
        refine v_sd rfl hx ?_
        rw [hcl, hF.2.2.1 f hf]
        exact v_rt rfl trivial (h _ (frC_F hf2) (InvC_F hI hf2))
      · have r2 : D 34 2 = nI S.2.1 := hI.1.2.1
        refine v_in (tb' := t_X5_wet) (rk' := 1) rfl rfl rfl ?_
        refine v_go rfl ?_
        refine v_ca rfl ?_
        refine c_noField (fun _ => ?_) (fun z => absurd hx z)
        refine v_go rfl ?_
        refine v_bT rfl (by decide) ?_
        refine v_go rfl ?_
        rw [r2]
        refine v_bT rfl (nI_ne0 (by omega) (by omega)) ?_
        refine v_go rfl ?_
        refine v_ca rfl ?_
        refine c_wetNow hI.1 hoS hf (fun D2 hf2 hF => ?_)
        exact v_rt rfl trivial (h _ (frM_R hf2) (InvM_R hI hf2))
  · refine ⟨-1, (S, rd, sh, tr, fl), hz, fun D Q hI h => ?_, fun D Q hI h => ?_⟩
    · refine v_in (tb' := t_X4_wet) (rk' := 1) rfl rfl rfl ?_
      refine v_go rfl ?_
      refine v_ca rfl ?_
      refine c_refusalOf hI.1.1 hn6 (fun _ => ?_) (fun z => absurd z hx) (fun z => absurd z hx) (fun z => absurd z hx)
      refine v_go rfl ?_
      refine v_bF rfl (by decide) ?_
      exact v_go rfl (v_rt rfl trivial (h _ (frC.refl _) hI))
    · refine v_in (tb' := t_X5_wet) (rk' := 1) rfl rfl rfl ?_
      refine v_go rfl ?_
      refine v_ca rfl ?_
      refine c_noField (fun z => absurd z hx) (fun _ => ?_)
      refine v_go rfl ?_
      refine v_bF rfl (by decide) ?_
      exact v_go rfl (v_rt rfl trivial (h _ (frM.refl _) hI))
def sp_line (S : SH) (l : Nat) (y : Int32) : Int32 := if y = 0 then nI (S.2.2.1 0 l) else if y = 1 then nI (S.2.2.1 1 l) else if y = 2 then oI (p_hour S l) else if y = 3 then oI (p_by S l) else if y = 4 then nI (p_amt S l) else -2
theorem s_ofLine (x y : Int32) : StepI 31 117 [.int x, .int y] := by
  intro L Z hz
  obtain ⟨S, rd, sh, tr, fl⟩ := Z
  have hoS : okS S := hz.1
  have hn6 : S.1 ≤ 6 := hoS.1
  by_cases hx : vp_in x S.1
  · obtain ⟨l, hl, rfl⟩ := vp_in_of hx (by omega)
    have hcl : (nI l).toNatClampNeg = l := nI_clamp (by omega)
    have hin : vp_in (nI l) 6 := vp_in_nI (by omega) (by omega)
    refine ⟨sp_line S l y, (S, rd, sh, tr, fl), hz, fun D Q hI h => ?_, fun D Q hI h => ?_⟩
    · refine v_in (tb' := t_X4_ofLine) (rk' := 1) rfl rfl rfl ?_
      refine v_go rfl ?_
      refine v_ca rfl ?_
      refine c_isLine hI.1.1 hn6 (fun _ => ?_) (fun z => absurd hx z)
      refine v_go rfl ?_
      refine v_bT rfl (by decide) ?_
      refine v_go rfl ?_
      refine v_ca rfl ?_
      refine c_workOut (Or.inl rfl) hI.1 hoS (fun D2 hf2 hF => ?_)
      have hI2 := InvC_F hI hf2
      have h := h D2 (frC_F hf2) hI2
      obtain ⟨q1, q2, q3⟩ := hF.1 l hl
      obtain ⟨q4, q5⟩ := hI2.1.2.2.1 l hl
      unfold sp_line at h
      refine v_go rfl ?_
      refine v_sw rfl ?_
      refine br_c (fun e => ?_) (fun e0 => ?_)
      · rw [if_pos e] at h
        refine v_go rfl (v_sd rfl hin ?_)
        rw [hcl]
        have q4 : D2 2 l = nI (S.2.2.1 0 l) := q4
        rw [q4]
        exact v_rt rfl trivial h
      · rw [if_neg e0] at h
        refine br_c (fun e => ?_) (fun e1 => ?_)
        · rw [if_pos e] at h
          refine v_go rfl (v_sd rfl hin ?_)
          rw [hcl]
          have q5 : D2 3 l = nI (S.2.2.1 1 l) := q5
          rw [q5]
          exact v_rt rfl trivial h
        · rw [if_neg e1] at h
          refine br_c (fun e => ?_) (fun e2 => ?_)
          · rw [if_pos e] at h
            refine v_go rfl (v_sd rfl hin ?_)
            rw [hcl, q1]
            exact v_rt rfl trivial h
          · rw [if_neg e2] at h
            refine br_c (fun e => ?_) (fun e3 => ?_)
            · rw [if_pos e] at h
              refine v_go rfl (v_sd rfl hin ?_)
              rw [hcl, q2]
              exact v_rt rfl trivial h
            · rw [if_neg e3] at h
              refine br_c (fun e => ?_) (fun e4 => ?_)
              · rw [if_pos e] at h
                refine v_go rfl (v_sd rfl hin ?_)
                rw [hcl, q3]
                exact v_rt rfl trivial h
              · rw [if_neg e4] at h
                exact v_go rfl (v_rt rfl trivial h)
    · refine v_in (tb' := t_X5_ofLine) (rk' := 1) rfl rfl rfl ?_
      refine v_go rfl ?_
      refine v_ca rfl ?_
      refine c_noLine hI.1.1 hn6 (fun _ => ?_) (fun z => absurd hx z)
      refine v_go rfl ?_
      refine v_bT rfl (by decide) ?_
      refine v_go rfl ?_
      refine v_ca rfl ?_
      refine c_rains hI.1 hoS (fun D2 hf2 hF => ?_)
      have hI2 := InvM_R hI hf2
      have h := h D2 (frM_R hf2) hI2
      obtain ⟨q1, q2, q3⟩ := hF.1 l hl
      obtain ⟨q4, q5⟩ := hI2.1.2.2.1 l hl
      unfold sp_line at h
      refine v_go rfl ?_
      refine v_sw rfl ?_
      refine br_c (fun e => ?_) (fun e0 => ?_)
      · rw [if_pos e] at h
        refine v_go rfl (v_sd rfl hin ?_)
        rw [hcl]
        have q4 : D2 35 l = nI (S.2.2.1 0 l) := q4
        rw [q4]
        exact v_rt rfl trivial h
      · rw [if_neg e0] at h
        refine br_c (fun e => ?_) (fun e1 => ?_)
        · rw [if_pos e] at h
          refine v_go rfl (v_sd rfl hin ?_)
          rw [hcl]
          have q5 : D2 36 l = nI (S.2.2.1 1 l) := q5
          rw [q5]
          exact v_rt rfl trivial h
        · rw [if_neg e1] at h
          refine br_c (fun e => ?_) (fun e2 => ?_)
          · rw [if_pos e] at h
            refine v_go rfl (v_sd rfl hin ?_)
            rw [hcl, q1]
            exact v_rt rfl trivial h
          · rw [if_neg e2] at h
            refine br_c (fun e => ?_) (fun e3 => ?_)
            · rw [if_pos e] at h
              refine v_go rfl (v_sd rfl hin ?_)
              rw [hcl, q2]
              exact v_rt rfl trivial h
            · rw [if_neg e3] at h
              refine br_c (fun e => ?_) (fun e4 => ?_)
              · rw [if_pos e] at h
                refine v_go rfl (v_sd rfl hin ?_)
                rw [hcl, q3]
                exact v_rt rfl trivial h
              · rw [if_neg e4] at h
                exact v_go rfl (v_rt rfl trivial h)
  · refine ⟨-1, (S, rd, sh, tr, fl), hz, fun D Q hI h => ?_, fun D Q hI h => ?_⟩
    · refine v_in (tb' := t_X4_ofLine) (rk' := 1) rfl rfl rfl ?_
      refine v_go rfl ?_
      refine v_ca rfl ?_
      refine c_isLine hI.1.1 hn6 (fun z => absurd z hx) (fun _ => ?_)
      refine v_go rfl ?_
      refine v_bF rfl (by decide) ?_
      exact v_go rfl (v_rt rfl trivial (h _ (frC.refl _) hI))
    · refine v_in (tb' := t_X5_ofLine) (rk' := 1) rfl rfl rfl ?_
      refine v_go rfl ?_
      refine v_ca rfl ?_
      refine c_noLine hI.1.1 hn6 (fun z => absurd z hx) (fun _ => ?_)
      refine v_go rfl ?_
      refine v_bF rfl (by decide) ?_
      exact v_go rfl (v_rt rfl trivial (h _ (frM.refl _) hI))
