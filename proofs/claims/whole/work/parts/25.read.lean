/-! ===== ofCrier, reading, back, many ===== -/
def sp_crier (S : SH) (c : Nat) (y : Int32) : Int32 := if y = 0 then nI (S.2.2.1 2 c) else if y = 1 then nI (S.2.2.1 3 c) else if y = 2 then nI (S.2.2.1 4 c) else if y = 3 then p_lby S c S.1 else if y = 4 then oI (p_hb (S.1 - 1) (S.2.2.1 4 c) (S.2.2.1 3 c)) else -2
theorem nI_p {n : Nat} (h : n ≠ 0) : nI n - 1 = nI (n - 1) := by
  cases n with
  | zero => exact absurd rfl h
  | succ n => exact nI_pred n
theorem s_ofCrier (x y : Int32) : StepI 32 118 [.int x, .int y] := by
  intro L Z hz
  obtain ⟨S, rd, sh, tr, fl⟩ := Z
  have hoS : okS S := hz.1
  have hn6 : S.1 ≤ 6 := hoS.1
  have hk3 : S.2.1 ≤ 3 := hoS.2.1
  have hk6 : S.2.1 ≤ 6 := by omega
  by_cases hx : vp_in x S.2.1
  · obtain ⟨c, hc, rfl⟩ := vp_in_of hx (by omega)
    have hcl : (nI c).toNatClampNeg = c := nI_clamp (by omega)
    have hin : vp_in (nI c) 3 := vp_in_nI (by omega) (by omega)
    have hs0 : S.2.2.1 4 c < S.1 := (hoS.2.2.2 c hc).2.2.2
    have hn1 : nI S.1 - 1 = nI (S.1 - 1) := nI_p (by omega)
    refine ⟨sp_crier S c y, (S, rd, sh, tr, fl), hz, fun D Q hI h => ?_, fun D Q hI h => ?_⟩
    · have r1 : D 1 0 = nI S.1 := hI.1.1
      have r4 : D 4 c = nI (S.2.2.1 2 c) := (hI.1.2.2.2.1 c hc).1
      have r5 : D 5 c = nI (S.2.2.1 3 c) := (hI.1.2.2.2.1 c hc).2.1
      have r6 : D 6 c = nI (S.2.2.1 4 c) := (hI.1.2.2.2.1 c hc).2.2
      refine v_in (tb' := t_X4_ofCrier) (rk' := 1) rfl rfl rfl ?_
      refine v_go rfl ?_
      refine v_ca rfl ?_
      refine c_isCrier hI.1.2.1 hk6 (fun _ => ?_) (fun z => absurd hx z)
      refine v_go rfl ?_
      refine v_bT rfl (by decide) ?_
      refine v_go rfl ?_
      unfold sp_crier at h
      refine v_sw rfl ?_
      refine br_c (fun e => ?_) (fun e0 => ?_)
      · rw [if_pos e] at h
        refine v_go rfl (v_sd rfl hin ?_)
        rw [hcl, r4]
        exact v_rt rfl trivial (h D (frC.refl _) hI)
      · rw [if_neg e0] at h
        refine br_c (fun e => ?_) (fun e1 => ?_)
        · rw [if_pos e] at h
          refine v_go rfl (v_sd rfl hin ?_)
          rw [hcl, r5]
          exact v_rt rfl trivial (h D (frC.refl _) hI)
        · rw [if_neg e1] at h
          refine br_c (fun e => ?_) (fun e2 => ?_)
          · rw [if_pos e] at h
            refine v_go rfl (v_sd rfl hin ?_)
            rw [hcl, r6]
            exact v_rt rfl trivial (h D (frC.refl _) hI)
          · rw [if_neg e2] at h
            refine br_c (fun e => ?_) (fun e3 => ?_)
            · rw [if_pos e] at h
              refine v_go rfl ?_
              refine v_ca rfl ?_
              refine c_workOut (Or.inl rfl) hI.1 hoS (fun D2 hf2 hF => ?_)
              have hI2 := InvC_F hI hf2
              have r12 : D2 1 0 = nI S.1 := hI2.1.1
              refine v_go rfl ?_
              rw [r12]
              refine v_ca rfl ?_
              refine c_linesBy hn6 (fun i hi => (hF.1 i hi).2.1) (by omega) hk3 ?_
              exact v_rt rfl trivial (h D2 (frC_F hf2) hI2)
            · rw [if_neg e3] at h
              refine br_c (fun e => ?_) (fun e4 => ?_)
              · rw [if_pos e] at h
                refine v_go rfl ?_
                rw [r1, hn1]
                refine v_ca rfl ?_
                refine c_hor (Or.inl rfl) hI.1 hoS hc (by omega) ?_
                exact v_rt rfl trivial (h D (frC.refl _) hI)
              · rw [if_neg e4] at h
                exact v_go rfl (v_rt rfl trivial (h D (frC.refl _) hI))
    · refine v_in (tb' := t_X5_ofCrier) (rk' := 1) rfl rfl rfl ?_
      refine v_go rfl ?_
      refine v_ca rfl ?_
      refine c_noCrier hI.1.2.1 hk6 (fun _ => ?_) (fun z => absurd hx z)
      refine v_go rfl ?_
      refine v_bT rfl (by decide) ?_
      refine v_go rfl ?_
      refine v_ca rfl ?_
      refine c_rains hI.1 hoS (fun D2 hf2 hF => ?_)
      have hI2 := InvM_R hI hf2
      have h := h D2 (frM_R hf2) hI2
      have r1 : D2 34 1 = nI S.1 := hI2.1.1
      have r4 : D2 37 c = nI (S.2.2.1 2 c) := (hI2.1.2.2.2.1 c hc).1
      have r5 : D2 38 c = nI (S.2.2.1 3 c) := (hI2.1.2.2.2.1 c hc).2.1
      have r6 : D2 39 c = nI (S.2.2.1 4 c) := (hI2.1.2.2.2.1 c hc).2.2
      have fin : m_V L 7 Q t_X5_ofCrier 1 (56, [some (.ref 34), some (.int (nI c)), some (.int y), some (.int (p_lby S c S.1)), some (.int (nI S.1))], [], D2) := by
        unfold sp_crier at h
        refine v_go rfl ?_
        refine v_sw rfl ?_
        refine br_c (fun e => ?_) (fun e0 => ?_)
        · rw [if_pos e] at h
          refine v_go rfl (v_sd rfl hin ?_)
          rw [hcl, r4]
          exact v_rt rfl trivial h
        · rw [if_neg e0] at h
          refine br_c (fun e => ?_) (fun e1 => ?_)
          · rw [if_pos e] at h
            refine v_go rfl (v_sd rfl hin ?_)
            rw [hcl, r5]
            exact v_rt rfl trivial h
          · rw [if_neg e1] at h
            refine br_c (fun e => ?_) (fun e2 => ?_)
            · rw [if_pos e] at h
              refine v_go rfl (v_sd rfl hin ?_)
              rw [hcl, r6]
              exact v_rt rfl trivial h
            · rw [if_neg e2] at h
              refine br_c (fun e => ?_) (fun e3 => ?_)
              · rw [if_pos e] at h
                exact v_go rfl (v_rt rfl trivial h)
              · rw [if_neg e3] at h
                refine br_c (fun e => ?_) (fun e4 => ?_)
                · rw [if_pos e] at h
                  refine v_go rfl ?_
                  rw [r1, hn1]
                  refine v_ca rfl ?_
                  refine c_hourBy hI2.1 hoS hc (by show S.1 - 1 < 6; omega) ?_
                  exact v_rt rfl trivial h
                · rw [if_neg e4] at h
                  exact v_go rfl (v_rt rfl trivial h)
      have key : ∀ (m l : Nat), l + m = S.1 → m_V L 7 Q t_X5_ofCrier 1 (19, [some (.ref 34), some (.int (nI c)), some (.int y), some (.int (p_lby S c l)), some (.int (nI l))], [], D2) := by
        intro m
        induction m with
        | zero =>
          intro l hm
          have hm : l = S.1 := by omega
          subst hm
          refine v_go rfl ?_
          rw [r1]
          refine v_bT rfl (Int32.le_refl _) ?_
          exact fin
        | succ m ih =>
          intro l hm
          have hcl2 : (nI l).toNatClampNeg = l := nI_clamp (by omega)
          have hin2 : vp_in (nI l) 6 := vp_in_nI (by omega) (by omega)
          have hk := ih (l + 1) (by omega)
          rw [← nI_1] at hk
          have e : p_lby S c (l + 1) = p_lby S c l ||| (if p_by S l = some c then 1 <<< (nI l &&& 31) else 0) := rfl
          rw [e] at hk
          refine v_go rfl ?_
          rw [r1]
          refine v_bF rfl (nI_ge (by omega) (by omega)) ?_
          refine v_go rfl ?_
          refine v_sd rfl hin2 ?_
          rw [hcl2, (hF.1 l (by show l < S.1; omega)).2.1]
          refine v_go rfl ?_
          by_cases hb : p_by S l = some c
          · rw [if_pos hb] at hk
            refine v_bF rfl (by rw [hb]; exact fun z => z rfl) ?_
            exact v_run 8 rfl hk
          · rw [if_neg hb] at hk
            refine v_bT rfl ?_ ?_
            · cases hw : p_by S l with
              | none => exact fun z => nI_m9 (by omega) z.symm
              | some w =>
                intro z
                have hw3 := ((p_fr_ok S l S.2.1).2 w hw).1
                have := (nI_eq (by omega) (by omega)).mp z
                exact hb (by rw [hw, this])
            · exact v_run 5 rfl hk
      exact v_run 4 rfl (key S.1 0 (by omega))
  · refine ⟨-1, (S, rd, sh, tr, fl), hz, fun D Q hI h => ?_, fun D Q hI h => ?_⟩
    · refine v_in (tb' := t_X4_ofCrier) (rk' := 1) rfl rfl rfl ?_
      refine v_go rfl ?_
      refine v_ca rfl ?_
      refine c_isCrier hI.1.2.1 hk6 (fun z => absurd z hx) (fun _ => ?_)
      refine v_go rfl ?_
      refine v_bF rfl (by decide) ?_
      exact v_go rfl (v_rt rfl trivial (h _ (frC.refl _) hI))
    · refine v_in (tb' := t_X5_ofCrier) (rk' := 1) rfl rfl rfl ?_
      refine v_go rfl ?_
      refine v_ca rfl ?_
      refine c_noCrier hI.1.2.1 hk6 (fun z => absurd z hx) (fun _ => ?_)
      refine v_go rfl ?_
      refine v_bF rfl (by decide) ?_
      exact v_go rfl (v_rt rfl trivial (h _ (frM.refl _) hI))
def updN (f : Nat → Nat) (k v : Nat) : Nat → Nat := fun j => if j = k then v else f j
theorem s_reading (x y : Int32) : StepI 56 144 [.int x, .int y] := by
  intro L Z hz
  obtain ⟨S, ⟨r, rf, rw0⟩, sh, tr, fl⟩ := Z
  have hoS : okS S := hz.1
  have hn6 : S.1 ≤ 6 := hoS.1
  have hnk : S.1 = 0 ↔ S.2.1 = 0 := hz.2.1
  have hk3 : S.2.1 ≤ 3 := hoS.2.1
  have hr8 : r ≤ 8 := hz.2.2.1
  have hg : (120 : Int64).toInt = ((121 : Nat) : Int) - 1 := by decide
  by_cases hx : vp_in x 4
  · by_cases hy : vp_in y 121
    · by_cases hn : S.1 = 0
      · have hk : S.2.1 = 0 := hnk.mp hn
        refine ⟨-3, (S, (r, rf, rw0), sh, tr, fl), hz, fun D Q hI h => ?_, fun D Q hI h => ?_⟩
        · refine v_in (tb' := t_X4_reading) (rk' := 1) rfl rfl rfl ?_
          refine v_go rfl ?_
          refine v_ca rfl ?_
          refine c_isWithin (n := 120) (by omega) (fun _ => ?_) (fun z => absurd hy z)
          refine v_ca rfl ?_
          refine c_refusalOf hI.1.1 hn6 (fun z => absurd hx z) (fun _ z => absurd z (by decide)) (fun _ _ _ => ?_) (fun _ _ z => absurd hn z)
          refine v_go rfl ?_
          refine v_bF rfl (by decide) ?_
          exact v_go rfl (v_rt rfl trivial (h _ (frC.refl _) hI))
        · have r2 : D 34 2 = nI 0 := by rw [← hk]; exact hI.1.2.1
          refine v_in (tb' := t_X5_reading) (rk' := 1) rfl rfl rfl ?_
          refine v_go rfl ?_
          refine v_ca rfl ?_
          refine c_noField (fun _ => ?_) (fun z => absurd hx z)
          refine v_go rfl ?_
          refine v_bT rfl (by decide) ?_
          refine v_go rfl ?_
          refine v_ca rfl ?_
          refine c_in (fun _ _ => ?_) (fun z => absurd ((in_iff hg).mpr hy) z)
          refine v_go rfl ?_
          refine v_bT rfl (by decide) ?_
          refine v_go rfl ?_
          rw [r2]
          refine v_bF rfl (fun z => z rfl) ?_
          exact v_go rfl (v_rt rfl trivial (h _ (frM.refl _) hI))
      · have hk : S.2.1 ≠ 0 := fun z => hn (hnk.mpr z)
        by_cases hr : r = 8
        · refine ⟨-4, (S, (r, rf, rw0), sh, tr, fl), hz, fun D Q hI h => ?_, fun D Q hI h => ?_⟩
          · have r7 : D 0 7 = nI 8 := by rw [← hr]; exact hI.2.1
            refine v_in (tb' := t_X4_reading) (rk' := 1) rfl rfl rfl ?_
            refine v_go rfl ?_
            refine v_ca rfl ?_
            refine c_isWithin (n := 120) (by omega) (fun _ => ?_) (fun z => absurd hy z)
            refine v_ca rfl ?_
            refine c_refusalOf hI.1.1 hn6 (fun z => absurd hx z) (fun _ z => absurd z (by decide)) (fun _ _ z => absurd z hn) (fun _ _ _ => ?_)
            refine v_go rfl ?_
            refine v_bT rfl rfl ?_
            refine v_go rfl ?_
            rw [r7]
            refine v_bF rfl (by decide) ?_
            exact v_go rfl (v_rt rfl trivial (h _ (frC.refl _) hI))
          · have r2 : D 34 2 = nI S.2.1 := hI.1.2.1
            have r7 : D 34 26 = nI 8 := by rw [← hr]; exact hI.2.1
            refine v_in (tb' := t_X5_reading) (rk' := 1) rfl rfl rfl ?_
            refine v_go rfl ?_
            refine v_ca rfl ?_
            refine c_noField (fun _ => ?_) (fun z => absurd hx z)
            refine v_go rfl ?_
            refine v_bT rfl (by decide) ?_
            refine v_go rfl ?_
            refine v_ca rfl ?_
            refine c_in (fun _ _ => ?_) (fun z => absurd ((in_iff hg).mpr hy) z)
            refine v_go rfl ?_
            refine v_bT rfl (by decide) ?_
            refine v_go rfl ?_
            rw [r2]
            refine v_bT rfl (nI_ne0 (by omega) (by omega)) ?_
            refine v_go rfl ?_
            rw [r7]
            refine v_bF rfl (by decide) ?_
            exact v_go rfl (v_rt rfl trivial (h _ (frM.refl _) hI))
        · obtain ⟨f, hf, rfl⟩ := vp_in_of hx (by omega)
          obtain ⟨v, hv, rfl⟩ := vp_in_of hy (by omega)
          have hcr : (nI r).toNatClampNeg = r := nI_clamp (by omega)
          have hinr : vp_in (nI r) 8 := vp_in_nI (by omega) (by omega)
          have hz' : okZ (S, (r + 1, updN rf r f, updN rw0 r v), sh, tr, fl) := by
            refine ⟨hoS, hnk, by show r + 1 ≤ 8; omega, fun i hi => ?_, hz.2.2.2.2⟩
            show updN rf r f i < 4 ∧ updN rw0 r v i ≤ 120
            unfold updN
            by_cases e : i = r
            · rw [if_pos e, if_pos e]
              omega
            · have hi : i < r + 1 := hi
              rw [if_neg e, if_neg e]
              exact hz.2.2.2.1 i (by show i < r; omega)
          refine ⟨nI r, (S, (r + 1, updN rf r f, updN rw0 r v), sh, tr, fl), hz', fun D Q hI h => ?_, fun D Q hI h => ?_⟩
          · have r7 : D 0 7 = nI r := hI.2.1
            have r7a : ∀ v, m_up D 32 r v 0 7 = nI r := fun _ => r7
            have r7b : ∀ v w, m_up (m_up D 32 r v) 33 r w 0 7 = nI r := fun _ _ => r7
            refine v_in (tb' := t_X4_reading) (rk' := 1) rfl rfl rfl ?_
            refine v_go rfl ?_
            refine v_ca rfl ?_
            refine c_isWithin (n := 120) (by omega) (fun _ => ?_) (fun z => absurd hy z)
            refine v_ca rfl ?_
            refine c_refusalOf hI.1.1 hn6 (fun z => absurd hx z) (fun _ z => absurd z (by decide)) (fun _ _ z => absurd z hn) (fun _ _ _ => ?_)
            refine v_go rfl ?_
            refine v_bT rfl rfl ?_
            refine v_go rfl ?_
            rw [r7]
            refine v_bT rfl (nI_lt (b := 8) (by omega) (by omega)) ?_
            refine v_go rfl ?_
            rw [r7]
            refine v_sd rfl hinr ?_
            rw [hcr]
            refine v_go rfl ?_
            rw [r7a]
            refine v_sd rfl hinr ?_
            rw [hcr]
            refine v_go rfl ?_
            rw [r7b, m_up_s, nI_1, nI_pred]
            refine v_rt rfl trivial (h _ ((((frC.refl _).up (by omega)).up (by omega)).up (by omega)) ?_)
            refine ⟨hI.1, m_up_s, fun i hi => ?_, fun k hk => shC_keep (by rw [m_up_ne (by omega), m_up_ne (by omega), m_up_ne (by omega)]) (by rw [m_up_ne (by omega), m_up_ne (by omega), m_up_ne (by omega)]) (hI.2.2.2.1 k hk), hI.2.2.2.2.1, hI.2.2.2.2.2⟩
            show upd (D 32) r (nI f) i = nI (updN rf r f i) ∧ upd (D 33) r (nI v) i = nI (updN rw0 r v i)
            unfold updN
            by_cases e : i = r
            · rw [e, pk_us, pk_us, if_pos rfl, if_pos rfl]
              exact ⟨rfl, rfl⟩
            · have hi : i < r + 1 := hi
              rw [pk_un e, pk_un e, if_neg e, if_neg e]
              exact hI.2.2.1 i (by show i < r; omega)
          · have r2 : D 34 2 = nI S.2.1 := hI.1.2.1
            have r7 : D 34 26 = nI r := hI.2.1
            have r7a : ∀ v, m_up D 54 r v 34 26 = nI r := fun _ => r7
            have r7b : ∀ v w, m_up (m_up D 54 r v) 55 r w 34 26 = nI r := fun _ _ => r7
            refine v_in (tb' := t_X5_reading) (rk' := 1) rfl rfl rfl ?_
            refine v_go rfl ?_
            refine v_ca rfl ?_
            refine c_noField (fun _ => ?_) (fun z => absurd hx z)
            refine v_go rfl ?_
            refine v_bT rfl (by decide) ?_
            refine v_go rfl ?_
            refine v_ca rfl ?_
            refine c_in (fun _ _ => ?_) (fun z => absurd ((in_iff hg).mpr hy) z)
            refine v_go rfl ?_
            refine v_bT rfl (by decide) ?_
            refine v_go rfl ?_
            rw [r2]
            refine v_bT rfl (nI_ne0 (by omega) (by omega)) ?_
            refine v_go rfl ?_
            rw [r7]
            refine v_bT rfl (fun z => hr ((nI_eq (b := 8) (by omega) (by omega)).mp z)) ?_
            refine v_go rfl ?_
            rw [r7]
            refine v_sd rfl hinr ?_
            rw [hcr]
            refine v_go rfl ?_
            rw [r7a]
            refine v_sd rfl hinr ?_
            rw [hcr]
            refine v_go rfl ?_
            rw [r7b, m_up_s, nI_1, nI_pred]
            refine v_rt rfl trivial (h _ ((((frM.refl _).up (by omega)).up (by omega)).up (by omega)) ?_)
            refine ⟨hI.1, m_up_s, fun i hi => ?_, fun k hk => shM_keep rfl rfl rfl (hI.2.2.2.1 k hk), hI.2.2.2.2.1, hI.2.2.2.2.2⟩
            show upd (D 54) r (nI f) i = nI (updN rf r f i) ∧ upd (D 55) r (nI v) i = nI (updN rw0 r v i)
            unfold updN
            by_cases e : i = r
            · rw [e, pk_us, pk_us, if_pos rfl, if_pos rfl]
              exact ⟨rfl, rfl⟩
            · have hi : i < r + 1 := hi
              rw [pk_un e, pk_un e, if_neg e, if_neg e]
              exact hI.2.2.1 i (by show i < r; omega)
    · refine ⟨-2, (S, (r, rf, rw0), sh, tr, fl), hz, fun D Q hI h => ?_, fun D Q hI h => ?_⟩
      · refine v_in (tb' := t_X4_reading) (rk' := 1) rfl rfl rfl ?_
        refine v_go rfl ?_
        refine v_ca rfl ?_
        refine c_isWithin (n := 120) (by omega) (fun z => absurd z hy) (fun _ => ?_)
        refine v_ca rfl ?_
        refine c_refusalOf hI.1.1 hn6 (fun z => absurd hx z) (fun _ _ => ?_) (fun _ z => absurd rfl z) (fun _ z => absurd rfl z)
        refine v_go rfl ?_
        refine v_bF rfl (by decide) ?_
        exact v_go rfl (v_rt rfl trivial (h _ (frC.refl _) hI))
      · refine v_in (tb' := t_X5_reading) (rk' := 1) rfl rfl rfl ?_
        refine v_go rfl ?_
        refine v_ca rfl ?_
        refine c_noField (fun _ => ?_) (fun z => absurd hx z)
        refine v_go rfl ?_
        refine v_bT rfl (by decide) ?_
        refine v_go rfl ?_
        refine v_ca rfl ?_
        refine c_in (fun a b => absurd ((in_iff hg).mp ⟨a, b⟩) hy) (fun _ => ?_)
        refine v_go rfl ?_
        refine v_bF rfl (by decide) ?_
        exact v_go rfl (v_rt rfl trivial (h _ (frM.refl _) hI))
  · refine ⟨-1, (S, (r, rf, rw0), sh, tr, fl), hz, fun D Q hI h => ?_, fun D Q hI h => ?_⟩
    · refine v_in (tb' := t_X4_reading) (rk' := 1) rfl rfl rfl ?_
      refine v_go rfl ?_
      refine v_ca rfl ?_
      refine c_isWithin (n := 120) (by omega) (fun hy => ?_) (fun hy => ?_)
      all_goals
        refine v_ca rfl ?_
        refine c_refusalOf hI.1.1 hn6 (fun _ => ?_) (fun z => absurd z hx) (fun z => absurd z hx) (fun z => absurd z hx)
        refine v_go rfl ?_
        refine v_bF rfl (by decide) ?_
        exact v_go rfl (v_rt rfl trivial (h _ (frC.refl _) hI))
    · refine v_in (tb' := t_X5_reading) (rk' := 1) rfl rfl rfl ?_
      refine v_go rfl ?_
      refine v_ca rfl ?_
      refine c_noField (fun z => absurd z hx) (fun _ => ?_)
      refine v_go rfl ?_
      refine v_bF rfl (by decide) ?_
      exact v_go rfl (v_rt rfl trivial (h _ (frM.refl _) hI))
theorem s_back (x : Int32) : StepI 57 145 [.int x] := by
  intro L Z hz
  obtain ⟨S, ⟨r, rf, rw0⟩, sh, tr, fl⟩ := Z
  have hr8 : r ≤ 8 := hz.2.2.1
  have hg : (nI r).toInt64.toInt = ((r + 1 : Nat) : Int) - 1 := by
    rw [nI_l (by omega), lN_toInt (by omega)]
    omega
  by_cases hx : vp_in x (r + 1)
  · obtain ⟨k, hk, rfl⟩ := vp_in_of hx (by omega)
    have es : nI r - nI k = nI (r - k) := pk_sub (by omega)
    have hz' : okZ (S, (r - k, rf, rw0), sh, tr, fl) := ⟨hz.1, hz.2.1, by show r - k ≤ 8; omega, fun i hi => hz.2.2.2.1 i (by have hi : i < r - k := hi; show i < r; omega), hz.2.2.2.2⟩
    refine ⟨nI (r - k), (S, (r - k, rf, rw0), sh, tr, fl), hz', fun D Q hI h => ?_, fun D Q hI h => ?_⟩
    · have r7 : D 0 7 = nI r := hI.2.1
      refine v_in (tb' := t_X4_back) (rk' := 1) rfl rfl rfl ?_
      refine v_go rfl ?_
      rw [r7]
      refine v_ca rfl ?_
      refine c_isWithin (n := r) (by omega) (fun _ => ?_) (fun z => absurd hx z)
      refine v_go rfl ?_
      refine v_bT rfl (by decide) ?_
      refine v_go rfl ?_
      rw [m_up_s, r7, es]
      refine v_rt rfl trivial (h _ ((frC.refl _).up (by omega)) ?_)
      exact ⟨hI.1, m_up_s, fun i hi => hI.2.2.1 i (by have hi : i < r - k := hi; show i < r; omega), fun k hk => shC_keep (m_up_ne (by omega)) (m_up_ne (by omega)) (hI.2.2.2.1 k hk), hI.2.2.2.2.1, hI.2.2.2.2.2⟩
    · have r7 : D 34 26 = nI r := hI.2.1
      refine v_in (tb' := t_X5_back) (rk' := 1) rfl rfl rfl ?_
      refine v_go rfl ?_
      rw [r7]
      refine v_ca rfl ?_
      refine c_in (fun _ _ => ?_) (fun z => absurd ((in_iff hg).mpr hx) z)
      refine v_go rfl ?_
      refine v_bT rfl (by decide) ?_
      refine v_go rfl ?_
      rw [m_up_s, r7, es]
      refine v_rt rfl trivial (h _ ((frM.refl _).up (by omega)) ?_)
      exact ⟨hI.1, m_up_s, fun i hi => hI.2.2.1 i (by have hi : i < r - k := hi; show i < r; omega), fun k hk => shM_keep rfl rfl rfl (hI.2.2.2.1 k hk), hI.2.2.2.2.1, hI.2.2.2.2.2⟩
  · refine ⟨-2, (S, (r, rf, rw0), sh, tr, fl), hz, fun D Q hI h => ?_, fun D Q hI h => ?_⟩
    · have r7 : D 0 7 = nI r := hI.2.1
      refine v_in (tb' := t_X4_back) (rk' := 1) rfl rfl rfl ?_
      refine v_go rfl ?_
      rw [r7]
      refine v_ca rfl ?_
      refine c_isWithin (n := r) (by omega) (fun z => absurd z hx) (fun _ => ?_)
      refine v_go rfl ?_
      refine v_bF rfl (by decide) ?_
      exact v_go rfl (v_rt rfl trivial (h _ (frC.refl _) hI))
    · have r7 : D 34 26 = nI r := hI.2.1
      refine v_in (tb' := t_X5_back) (rk' := 1) rfl rfl rfl ?_
      refine v_go rfl ?_
      rw [r7]
      refine v_ca rfl ?_
      refine c_in (fun a b => absurd ((in_iff hg).mp ⟨a, b⟩) hx) (fun _ => ?_)
      refine v_go rfl ?_
      refine v_bF rfl (by decide) ?_
      exact v_go rfl (v_rt rfl trivial (h _ (frM.refl _) hI))
