/-! ===== bribe, as, print, begin, cough ===== -/
theorem c_refused {L d : Nat} {v : Int32} {D : m_D} {Q : m_K} (h : Q (some (.int v)) (m_up D 34 0 0)) : m_call L (d + 1) 94 [.ref 34, .int v] D Q := by
  refine v_in (tb' := t_X5_refused) (rk' := 1) rfl rfl rfl ?_
  refine v_go rfl ?_
  exact v_rt rfl trivial h
theorem c_failed {L d : Nat} {v : Int32} {D : m_D} {Q : m_K} (h : Q (some (.int (-10 - v))) (m_up D 34 0 v)) : m_call L (d + 1) 95 [.ref 34, .int v] D Q := by
  refine v_in (tb' := t_X5_failed) (rk' := 1) rfl rfl rfl ?_
  refine v_go rfl ?_
  exact v_rt rfl trivial h
theorem c_faulted {L d : Nat} {v : Int32} {D : m_D} {Q : m_K} (h : Q (some (.int (-10 - v))) (m_up D 0 9 v)) : m_call L (d + 1) 80 [.ref 0, .int v] D Q := by
  refine v_in (tb' := t_X4_faulted) (rk' := 1) rfl rfl rfl ?_
  refine v_go rfl ?_
  exact v_rt rfl trivial h
theorem s_bribe (x : Int32) : StepI 74 161 [.int x] := by
  intro L Z hz
  obtain ⟨S, rd, sh, tr, fl⟩ := Z
  have hoS : okS S := hz.1
  have hk3 : S.2.1 ≤ 3 := hoS.2.1
  have hk6 : S.2.1 ≤ 6 := by omega
  by_cases hx : vp_in x S.2.1
  · obtain ⟨c, hc, rfl⟩ := vp_in_of hx (by omega)
    have hcl : (nI c).toNatClampNeg = c := nI_clamp (by omega)
    have hin : vp_in (nI c) 3 := vp_in_nI (by omega) (by omega)
    by_cases hkd : S.2.2.1 2 c = 2
    · refine ⟨60, (S, rd, sh, 31 * tr + 5, fl), hz, fun D Q hI h => ?_, fun D Q hI h => ?_⟩
      · have ht : D 0 8 = tr := hI.2.2.2.2.1
        have r4 : D 4 c = nI (S.2.2.1 2 c) := (hI.1.2.2.2.1 c hc).1
        refine v_in (tb' := t_X4_bribe) (rk' := 1) rfl rfl rfl ?_
        refine v_go rfl ?_
        refine v_ca rfl ?_
        refine c_isCrier hI.1.2.1 hk6 (fun _ => ?_) (fun z => absurd hx z)
        refine v_go rfl ?_
        refine v_bT rfl (by decide) ?_
        refine v_go rfl ?_
        refine v_sd rfl hin ?_
        rw [hcl, r4, hkd]
        refine v_go rfl ?_
        refine v_bF rfl (by decide) ?_
        refine v_go rfl ?_
        refine v_ca rfl ?_
        refine c_leave ?_
        rw [ht]
        refine v_go rfl ?_
        exact v_rt rfl trivial (h _ ((frC.refl _).up (by omega)) (InvC_tr _ hI))
      · have ht : D 34 33 = tr := hI.2.2.2.2.1
        have r4 : D 37 c = nI (S.2.2.1 2 c) := (hI.1.2.2.2.1 c hc).1
        have r4' : ∀ v, m_up D 34 33 v 37 c = nI (S.2.2.1 2 c) := fun v => r4
        refine v_in (tb' := t_X5_bribe) (rk' := 1) rfl rfl rfl ?_
        refine v_go rfl ?_
        refine v_ca rfl ?_
        refine c_noCrier hI.1.2.1 hk6 (fun _ => ?_) (fun z => absurd hx z)
        refine v_go rfl ?_
        refine v_bT rfl (by decide) ?_
        refine v_go rfl ?_
        refine v_sd rfl hin ?_
        rw [hcl, r4, hkd]
        refine v_go rfl ?_
        refine v_bF rfl (by decide) ?_
        refine v_go rfl ?_
        refine v_ca rfl ?_
        refine c_traced ?_
        rw [ht]
        refine v_go rfl ?_
        refine v_sd rfl hin ?_
        rw [hcl, r4', hkd]
        refine v_go rfl ?_
        refine v_bF rfl (by decide) ?_
        exact v_go rfl (v_rt rfl trivial (h _ ((frM.refl _).up (by omega)) (InvM_tr _ hI)))
    · have hk2 : S.2.2.1 2 c ≤ 2 := (hoS.2.2.2 c hc).1
      have hne : ¬ nI (S.2.2.1 2 c) = 2 := fun z => hkd ((nI_eq (b := 2) (by omega) (by omega)).mp z)
      refine ⟨nI (S.2.2.1 4 c), (S, rd, sh, 31 * tr + 4, fl), hz, fun D Q hI h => ?_, fun D Q hI h => ?_⟩
      · have ht : D 0 8 = tr := hI.2.2.2.2.1
        have r4 : D 4 c = nI (S.2.2.1 2 c) := (hI.1.2.2.2.1 c hc).1
        have r6 : ∀ v, m_up D 0 8 v 6 c = nI (S.2.2.1 4 c) := fun v => (hI.1.2.2.2.1 c hc).2.2
        refine v_in (tb' := t_X4_bribe) (rk' := 1) rfl rfl rfl ?_
        refine v_go rfl ?_
        refine v_ca rfl ?_
        refine c_isCrier hI.1.2.1 hk6 (fun _ => ?_) (fun z => absurd hx z)
        refine v_go rfl ?_
        refine v_bT rfl (by decide) ?_
        refine v_go rfl ?_
        refine v_sd rfl hin ?_
        rw [hcl, r4]
        refine v_go rfl ?_
        refine v_bT rfl hne ?_
        refine v_go rfl ?_
        refine v_ca rfl ?_
        refine c_leave ?_
        rw [ht]
        refine v_go rfl ?_
        refine v_sd rfl hin ?_
        rw [hcl, r6]
        exact v_rt rfl trivial (h _ ((frC.refl _).up (by omega)) (InvC_tr _ hI))
      · have ht : D 34 33 = tr := hI.2.2.2.2.1
        have r4 : D 37 c = nI (S.2.2.1 2 c) := (hI.1.2.2.2.1 c hc).1
        have r4' : ∀ v, m_up D 34 33 v 37 c = nI (S.2.2.1 2 c) := fun v => r4
        have r6 : ∀ v, m_up D 34 33 v 39 c = nI (S.2.2.1 4 c) := fun v => (hI.1.2.2.2.1 c hc).2.2
        refine v_in (tb' := t_X5_bribe) (rk' := 1) rfl rfl rfl ?_
        refine v_go rfl ?_
        refine v_ca rfl ?_
        refine c_noCrier hI.1.2.1 hk6 (fun _ => ?_) (fun z => absurd hx z)
        refine v_go rfl ?_
        refine v_bT rfl (by decide) ?_
        refine v_go rfl ?_
        refine v_sd rfl hin ?_
        rw [hcl, r4]
        refine v_go rfl ?_
        refine v_bT rfl hne ?_
        refine v_go rfl ?_
        refine v_ca rfl ?_
        refine c_traced ?_
        rw [ht]
        refine v_go rfl ?_
        refine v_sd rfl hin ?_
        rw [hcl, r4']
        refine v_go rfl ?_
        refine v_bT rfl hne ?_
        refine v_go rfl ?_
        refine v_sd rfl hin ?_
        rw [hcl, r6]
        exact v_rt rfl trivial (h _ ((frM.refl _).up (by omega)) (InvM_tr _ hI))
  · refine ⟨-1, (S, rd, sh, tr, fl), hz, fun D Q hI h => ?_, fun D Q hI h => ?_⟩
    · refine v_in (tb' := t_X4_bribe) (rk' := 1) rfl rfl rfl ?_
      refine v_go rfl ?_
      refine v_ca rfl ?_
      refine c_isCrier hI.1.2.1 hk6 (fun z => absurd z hx) (fun _ => ?_)
      refine v_go rfl ?_
      refine v_bF rfl (by decide) ?_
      exact v_go rfl (v_rt rfl trivial (h _ (frC.refl _) hI))
    · refine v_in (tb' := t_X5_bribe) (rk' := 1) rfl rfl rfl ?_
      refine v_go rfl ?_
      refine v_ca rfl ?_
      refine c_noCrier hI.1.2.1 hk6 (fun z => absurd z hx) (fun _ => ?_)
      refine v_go rfl ?_
      refine v_bF rfl (by decide) ?_
      exact v_go rfl (v_rt rfl trivial (h _ (frM.refl _) hI))
theorem s_as (x y : Int32) : StepI 76 162 [.int x, .int y] := by
  intro L Z hz
  obtain ⟨S, rd, sh, tr, fl⟩ := Z
  have hoS : okS S := hz.1
  have hk3 : S.2.1 ≤ 3 := hoS.2.1
  have hk6 : S.2.1 ≤ 6 := by omega
  have hg : (2 : Int64).toInt = ((3 : Nat) : Int) - 1 := by decide
  have eC : ∀ D, InvC (S, rd, sh, tr, fl) D → InvC (S, rd, sh, tr, 0) (m_up D 0 9 0) := fun D hI => InvC_fl 0 hI
  have eM : ∀ D, InvM (S, rd, sh, tr, fl) D → InvM (S, rd, sh, tr, 0) (m_up D 34 0 0) := fun D hI => InvM_fl 0 hI
  by_cases hx : vp_in x S.2.1
  · obtain ⟨c, hc, rfl⟩ := vp_in_of hx (by omega)
    have hcl : (nI c).toNatClampNeg = c := nI_clamp (by omega)
    have hin : vp_in (nI c) 3 := vp_in_nI (by omega) (by omega)
    by_cases hy : vp_in y 3
    · obtain ⟨k, hk, rfl⟩ := vp_in_of hy (by omega)
      have hk2 : S.2.2.1 2 c ≤ 2 := (hoS.2.2.2 c hc).1
      by_cases hlt : S.2.2.1 2 c < k
      · have hl2 : nI (S.2.2.1 2 c) < nI k := nI_lt hlt (by omega)
        refine ⟨-12, (S, rd, sh, tr, 2), hz, fun D Q hI h => ?_, fun D Q hI h => ?_⟩
        · have r4 : m_up D 0 9 0 4 c = nI (S.2.2.1 2 c) := (hI.1.2.2.2.1 c hc).1
          refine v_in (tb' := t_X4_as) (rk' := 1) rfl rfl rfl ?_
          refine v_go rfl ?_
          refine v_ca rfl ?_
          refine c_isCrier (eC D hI).1.2.1 hk6 (fun _ => ?_) (fun z => absurd hx z)
          refine v_go rfl ?_
          refine v_bT rfl (by decide) ?_
          refine v_go rfl ?_
          refine v_ca rfl ?_
          refine c_isWithin (n := 2) (by omega) (fun _ => ?_) (fun z => absurd hy z)
          refine v_go rfl ?_
          refine v_bT rfl (by decide) ?_
          refine v_go rfl ?_
          refine v_sd rfl hin ?_
          rw [hcl, r4]
          refine v_go rfl ?_
          refine v_bT rfl hl2 ?_
          refine v_go rfl ?_
          refine v_ca rfl ?_
          refine c_faulted ?_
          rw [m_up_ii]
          exact v_rt rfl trivial (h _ ((frC.refl _).up (by omega)) (InvC_fl _ hI))
        · have r4 : D 37 c = nI (S.2.2.1 2 c) := (hI.1.2.2.2.1 c hc).1
          refine v_in (tb' := t_X5_as) (rk' := 1) rfl rfl rfl ?_
          refine v_go rfl ?_
          refine v_ca rfl ?_
          refine c_noCrier hI.1.2.1 hk6 (fun _ => ?_) (fun z => absurd hx z)
          refine v_go rfl ?_
          refine v_bT rfl (by decide) ?_
          refine v_go rfl ?_
          refine v_ca rfl ?_
          refine c_in (fun _ _ => ?_) (fun z => absurd ((in_iff hg).mpr hy) z)
          refine v_go rfl ?_
          refine v_bT rfl (by decide) ?_
          refine v_go rfl ?_
          refine v_sd rfl hin ?_
          rw [hcl, r4]
          refine v_go rfl ?_
          refine v_bT rfl hl2 ?_
          refine v_go rfl ?_
          refine v_ca rfl ?_
          refine c_failed ?_
          exact v_rt rfl trivial (h _ ((frM.refl _).up (by omega)) (InvM_fl _ hI))
      · have hl2 : ¬ nI (S.2.2.1 2 c) < nI k := nI_nlt (by omega) (by omega)
        refine ⟨1, (S, rd, sh, tr, 0), hz, fun D Q hI h => ?_, fun D Q hI h => ?_⟩
        · have r4 : m_up D 0 9 0 4 c = nI (S.2.2.1 2 c) := (hI.1.2.2.2.1 c hc).1
          refine v_in (tb' := t_X4_as) (rk' := 1) rfl rfl rfl ?_
          refine v_go rfl ?_
          refine v_ca rfl ?_
          refine c_isCrier (eC D hI).1.2.1 hk6 (fun _ => ?_) (fun z => absurd hx z)
          refine v_go rfl ?_
          refine v_bT rfl (by decide) ?_
          refine v_go rfl ?_
          refine v_ca rfl ?_
          refine c_isWithin (n := 2) (by omega) (fun _ => ?_) (fun z => absurd hy z)
          refine v_go rfl ?_
          refine v_bT rfl (by decide) ?_
          refine v_go rfl ?_
          refine v_sd rfl hin ?_
          rw [hcl, r4]
          refine v_go rfl ?_
          refine v_bF rfl hl2 ?_
          exact v_go rfl (v_rt rfl trivial (h _ ((frC.refl _).up (by omega)) (InvC_fl _ hI)))
        · have r4 : D 37 c = nI (S.2.2.1 2 c) := (hI.1.2.2.2.1 c hc).1
          refine v_in (tb' := t_X5_as) (rk' := 1) rfl rfl rfl ?_
          refine v_go rfl ?_
          refine v_ca rfl ?_
          refine c_noCrier hI.1.2.1 hk6 (fun _ => ?_) (fun z => absurd hx z)
          refine v_go rfl ?_
          refine v_bT rfl (by decide) ?_
          refine v_go rfl ?_
          refine v_ca rfl ?_
          refine c_in (fun _ _ => ?_) (fun z => absurd ((in_iff hg).mpr hy) z)
          refine v_go rfl ?_
          refine v_bT rfl (by decide) ?_
          refine v_go rfl ?_
          refine v_sd rfl hin ?_
          rw [hcl, r4]
          refine v_go rfl ?_
          refine v_bF rfl hl2 ?_
          refine v_go rfl ?_
          refine v_ca rfl ?_
          refine c_refused ?_
          exact v_go rfl (v_rt rfl trivial (h _ ((frM.refl _).up (by omega)) (InvM_fl _ hI)))
    · refine ⟨-2, (S, rd, sh, tr, 0), hz, fun D Q hI h => ?_, fun D Q hI h => ?_⟩
      · refine v_in (tb' := t_X4_as) (rk' := 1) rfl rfl rfl ?_
        refine v_go rfl ?_
        refine v_ca rfl ?_
        refine c_isCrier (eC D hI).1.2.1 hk6 (fun _ => ?_) (fun z => absurd hx z)
        refine v_go rfl ?_
        refine v_bT rfl (by decide) ?_
        refine v_go rfl ?_
        refine v_ca rfl ?_
        refine c_isWithin (n := 2) (by omega) (fun z => absurd z hy) (fun _ => ?_)
        refine v_go rfl ?_
        refine v_bF rfl (by decide) ?_
        exact v_go rfl (v_rt rfl trivial (h _ ((frC.refl _).up (by omega)) (InvC_fl _ hI)))
      · refine v_in (tb' := t_X5_as) (rk' := 1) rfl rfl rfl ?_
        refine v_go rfl ?_
        refine v_ca rfl ?_
        refine c_noCrier hI.1.2.1 hk6 (fun _ => ?_) (fun z => absurd hx z)
        refine v_go rfl ?_
        refine v_bT rfl (by decide) ?_
        refine v_go rfl ?_
        refine v_ca rfl ?_
        refine c_in (fun a b => absurd ((in_iff hg).mp ⟨a, b⟩) hy) (fun _ => ?_)
        refine v_go rfl ?_
        refine v_bF rfl (by decide) ?_
        refine v_go rfl ?_
        refine v_ca rfl ?_
        refine c_refused ?_
        exact v_rt rfl trivial (h _ ((frM.refl _).up (by omega)) (InvM_fl _ hI))
  · refine ⟨-1, (S, rd, sh, tr, 0), hz, fun D Q hI h => ?_, fun D Q hI h => ?_⟩
    · refine v_in (tb' := t_X4_as) (rk' := 1) rfl rfl rfl ?_
      refine v_go rfl ?_
      refine v_ca rfl ?_
      refine c_isCrier (eC D hI).1.2.1 hk6 (fun z => absurd z hx) (fun _ => ?_)
      refine v_go rfl ?_
      refine v_bF rfl (by decide) ?_
      exact v_go rfl (v_rt rfl trivial (h _ ((frC.refl _).up (by omega)) (InvC_fl _ hI)))
    · refine v_in (tb' := t_X5_as) (rk' := 1) rfl rfl rfl ?_
      refine v_go rfl ?_
      refine v_ca rfl ?_
      refine c_noCrier hI.1.2.1 hk6 (fun z => absurd z hx) (fun _ => ?_)
      refine v_go rfl ?_
      refine v_bF rfl (by decide) ?_
      refine v_go rfl ?_
      refine v_ca rfl ?_
      refine c_refused ?_
      exact v_rt rfl trivial (h _ ((frM.refl _).up (by omega)) (InvM_fl _ hI))
