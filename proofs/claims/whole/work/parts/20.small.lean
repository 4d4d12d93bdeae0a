/-! ===== small calls: trace, fault, tell, bribe, as, print, begin ===== -/
theorem InvC_tr {S : SH} {rd : Nat × (Nat → Nat) × (Nat → Nat)} {sh : Nat → Option (Nat × Nat × (Nat → Int32))} {tr fl : Int32} {D : m_D} (v : Int32) (h : InvC (S, rd, sh, tr, fl) D) : InvC (S, rd, sh, v, fl) (m_up D 0 8 v) := ⟨h.1, h.2.1, h.2.2.1, fun k hk => shC_keep (m_up_ne (by omega)) (m_up_ne (by omega)) (h.2.2.2.1 k hk), m_up_s, h.2.2.2.2.2⟩
theorem InvC_fl {S : SH} {rd : Nat × (Nat → Nat) × (Nat → Nat)} {sh : Nat → Option (Nat × Nat × (Nat → Int32))} {tr fl : Int32} {D : m_D} (v : Int32) (h : InvC (S, rd, sh, tr, fl) D) : InvC (S, rd, sh, tr, v) (m_up D 0 9 v) := ⟨h.1, h.2.1, h.2.2.1, fun k hk => shC_keep (m_up_ne (by omega)) (m_up_ne (by omega)) (h.2.2.2.1 k hk), h.2.2.2.2.1, m_up_s⟩
theorem InvM_tr {S : SH} {rd : Nat × (Nat → Nat) × (Nat → Nat)} {sh : Nat → Option (Nat × Nat × (Nat → Int32))} {tr fl : Int32} {D : m_D} (v : Int32) (h : InvM (S, rd, sh, tr, fl) D) : InvM (S, rd, sh, v, fl) (m_up D 34 33 v) := ⟨h.1, h.2.1, h.2.2.1, fun k hk => shM_keep rfl rfl rfl (h.2.2.2.1 k hk), m_up_s, h.2.2.2.2.2⟩
theorem InvM_fl {S : SH} {rd : Nat × (Nat → Nat) × (Nat → Nat)} {sh : Nat → Option (Nat × Nat × (Nat → Int32))} {tr fl : Int32} {D : m_D} (v : Int32) (h : InvM (S, rd, sh, tr, fl) D) : InvM (S, rd, sh, tr, v) (m_up D 34 0 v) := ⟨h.1, h.2.1, h.2.2.1, fun k hk => shM_keep rfl rfl rfl (h.2.2.2.1 k hk), h.2.2.2.2.1, m_up_s⟩
theorem frC.up {D D' : m_D} {i j : Nat} {v : Int32} (h : frC D D') (hi : i < 34) : frC D (m_up D' i j v) := fun a ha => (m_up_ne (D := D') (i := i) (a := a) (by omega)).trans (h a ha)
theorem frM.up {D D' : m_D} {i j : Nat} {v : Int32} (h : frM D D') (hi : 34 ≤ i ∧ i ≠ 60) : frM D (m_up D' i j v) := fun a ha => (m_up_ne (D := D') (i := i) (a := a) (by omega)).trans (h a ha)
theorem frC.trans {D D1 D2 : m_D} (h : frC D D1) (g : frC D1 D2) : frC D D2 := fun a ha => (g a ha).trans (h a ha)
theorem frM.trans {D D1 D2 : m_D} (h : frM D D1) (g : frM D1 D2) : frM D D2 := fun a ha => (g a ha).trans (h a ha)
theorem s_trace : StepI 77 163 [] := by
  intro L Z hz
  refine ⟨Z.2.2.2.1, Z, hz, fun D Q hI h => ?_, fun D Q hI h => ?_⟩
  · refine v_in (tb' := t_X4_trace) (rk' := 1) rfl rfl rfl ?_
    refine v_go rfl ?_
    rw [hI.2.2.2.2.1]
    exact v_rt rfl trivial (h D (frC.refl _) hI)
  · refine v_in (tb' := t_X5_trace) (rk' := 1) rfl rfl rfl ?_
    refine v_go rfl ?_
    rw [hI.2.2.2.2.1]
    exact v_rt rfl trivial (h D (frM.refl _) hI)
theorem s_fault : StepI 78 164 [] := by
  intro L Z hz
  refine ⟨Z.2.2.2.2, Z, hz, fun D Q hI h => ?_, fun D Q hI h => ?_⟩
  · refine v_in (tb' := t_X4_fault) (rk' := 1) rfl rfl rfl ?_
    refine v_go rfl ?_
    rw [hI.2.2.2.2.2]
    exact v_rt rfl trivial (h D (frC.refl _) hI)
  · refine v_in (tb' := t_X5_fault) (rk' := 1) rfl rfl rfl ?_
    refine v_go rfl ?_
    rw [hI.2.2.2.2.2]
    exact v_rt rfl trivial (h D (frM.refl _) hI)
theorem c_leave {L d : Nat} {v : Int32} {D : m_D} {Q : m_K} (h : Q none (m_up D 0 8 (31 * D 0 8 + v))) : m_call L (d + 1) 75 [.ref 0, .int v] D Q := by
  refine v_in (tb' := t_X4_leave) (rk' := 0) rfl rfl rfl ?_
  refine v_go rfl ?_
  exact v_rt rfl trivial h
theorem c_traced {L d : Nat} {v : Int32} {D : m_D} {Q : m_K} (h : Q none (m_up D 34 33 (31 * D 34 33 + v))) : m_call L (d + 1) 159 [.ref 34, .int v] D Q := by
  refine v_in (tb' := t_X5_traced) (rk' := 0) rfl rfl rfl ?_
  refine v_go rfl ?_
  exact v_rt rfl trivial h
theorem c_plain {L d c : Nat} {S : SH} {D : m_D} {Q : m_K} (hr : relC 1 D S) (hc : c < S.2.1) (hk : S.2.1 ≤ 3) (h : Q (some (.int (nI (S.2.2.1 3 c)))) (m_up D 0 8 (31 * D 0 8 + 1))) : m_call L (d + 2) 71 [.ref 0, .int (nI c)] D Q := by
  have hcl : (nI c).toNatClampNeg = c := nI_clamp (by omega)
  have hin : vp_in (nI c) 3 := vp_in_nI (by omega) (by omega)
  refine v_in (tb' := t_X4_plainTelling) (rk' := 1) rfl rfl rfl ?_
  refine v_go rfl ?_
  refine v_ca rfl ?_
  refine c_leave ?_
  refine v_go rfl ?_
  refine v_sd rfl hin ?_
  rw [hcl]
  have e : m_up D 0 8 (31 * D 0 8 + 1) 5 c = nI (S.2.2.1 3 c) := (hr.2.2.2.1 c hc).2.1
  rw [e]
  exact v_rt rfl trivial h
theorem c_mumbling {L d c : Nat} {S : SH} {D : m_D} {Q : m_K} (hr : relC 1 D S) (hc : c < S.2.1) (hk : S.2.1 ≤ 3) (h : Q (some (.int (nI (S.2.2.1 3 c) + 100))) (m_up (m_up D 0 8 (31 * D 0 8 + 2)) 0 8 (31 * (31 * D 0 8 + 2) + 1))) : m_call L (d + 3) 72 [.ref 0, .int (nI c)] D Q := by
  refine v_in (tb' := t_X4_mumblingTelling) (rk' := 1) rfl rfl rfl ?_
  refine v_go rfl ?_
  refine v_ca rfl ?_
  refine c_leave ?_
  refine v_go rfl ?_
  refine v_ca rfl ?_
  refine c_plain (D := m_up D 0 8 (31 * D 0 8 + 2)) hr hc hk ?_
  refine v_go rfl ?_
  exact v_rt rfl trivial h
theorem upd_ii {f : Nat → Int32} {k : Nat} {x y : Int32} : upd (upd f k x) k y = upd f k y := by
  funext j
  by_cases e : j = k
  · rw [e, pk_us, pk_us]
  · rw [pk_un e, pk_un e, pk_un e]
theorem m_up_ii {D : m_D} {i k : Nat} {x y : Int32} : m_up (m_up D i k x) i k y = m_up D i k y := by
  funext a
  by_cases e : a = i
  · rw [e, m_up_at, m_up_at, m_up_at, upd_ii]
  · rw [m_up_ne e, m_up_ne e, m_up_ne e]
theorem s_tell (x : Int32) : StepI 70 160 [.int x] := by
  intro L Z hz
  obtain ⟨S, rd, sh, tr, fl⟩ := Z
  have hk3 : S.2.1 ≤ 3 := hz.1.2.1
  have hk6 : S.2.1 ≤ 6 := by omega
  by_cases hx : vp_in x S.2.1
  · obtain ⟨c, hc, rfl⟩ := vp_in_of hx (by omega)
    have hcl : (nI c).toNatClampNeg = c := nI_clamp (by omega)
    have hin : vp_in (nI c) 3 := vp_in_nI (by omega) (by omega)
    have hoS : okS S := hz.1
    have ho := hoS.2.2.2 c hc
    have hkd : S.2.2.1 2 c = 0 ∨ S.2.2.1 2 c = 1 ∨ S.2.2.1 2 c = 2 := by omega
    rcases hkd with hkd | hkd | hkd
    · refine ⟨nI (S.2.2.1 3 c), (S, rd, sh, 31 * tr + 1, fl), hz, fun D Q hI h => ?_, fun D Q hI h => ?_⟩
      · have ht : D 0 8 = tr := hI.2.2.2.2.1
        refine v_in (tb' := t_X4_tell) (rk' := 1) rfl rfl rfl ?_
        refine v_go rfl ?_
        refine v_ca rfl ?_
        refine c_isCrier hI.1.2.1 hk6 (fun _ => ?_) (fun z => absurd hx z)
        refine v_go rfl ?_
        refine v_bT rfl (by decide) ?_
        refine v_go rfl ?_
        refine v_sd rfl hin ?_
        rw [hcl, (hI.1.2.2.2.1 c hc).1, hkd]
        refine v_sw rfl ?_
        refine br_c (fun _ => ?_) (fun z => absurd (by decide) z)
        refine v_go rfl ?_
        refine v_ca rfl ?_
        refine c_plain hI.1 hc hk3 ?_
        rw [ht]
        exact v_rt rfl trivial (h _ ((frC.refl _).up (by omega)) (InvC_tr _ hI))
      · have ht : D 34 33 = tr := hI.2.2.2.2.1
        refine v_in (tb' := t_X5_tell) (rk' := 1) rfl rfl rfl ?_
        refine v_go rfl ?_
        refine v_ca rfl ?_
        refine c_noCrier hI.1.2.1 hk6 (fun _ => ?_) (fun z => absurd hx z)
        refine v_go rfl ?_
        refine v_bT rfl (by decide) ?_
        refine v_go rfl ?_
        refine v_sd rfl hin ?_
        rw [hcl, (hI.1.2.2.2.1 c hc).1, hkd]
        refine v_go rfl ?_
        refine v_bT rfl (by decide) ?_
        refine v_go rfl ?_
        refine v_bT rfl (by decide) ?_
        refine v_go rfl ?_
        refine v_ca rfl ?_
        refine c_traced ?_
        rw [ht]
        refine v_go rfl ?_
        refine v_bT rfl (by decide) ?_
        refine v_go rfl ?_
        refine v_sd rfl hin ?_
        rw [hcl]
        have e : m_up D 34 33 (31 * tr + 1) 38 c = nI (S.2.2.1 3 c) := (hI.1.2.2.2.1 c hc).2.1
        rw [e]
        refine v_go rfl ?_
        refine v_bF rfl (by decide) ?_
        exact v_go rfl (v_rt rfl trivial (h _ ((frM.refl _).up (by omega)) (InvM_tr _ hI)))
    · refine ⟨nI (S.2.2.1 3 c) + 100, (S, rd, sh, 31 * (31 * tr + 2) + 1, fl), hz, fun D Q hI h => ?_, fun D Q hI h => ?_⟩
      · have ht : D 0 8 = tr := hI.2.2.2.2.1
        refine v_in (tb' := t_X4_tell) (rk' := 1) rfl rfl rfl ?_
        refine v_go rfl ?_
        refine v_ca rfl ?_
        refine c_isCrier hI.1.2.1 hk6 (fun _ => ?_) (fun z => absurd hx z)
        refine v_go rfl ?_
        refine v_bT rfl (by decide) ?_
        refine v_go rfl ?_
        refine v_sd rfl hin ?_
        rw [hcl, (hI.1.2.2.2.1 c hc).1, hkd]
        refine v_sw rfl ?_
        refine br_c (fun z => absurd z (by decide)) (fun _ => ?_)
        refine br_c (fun _ => ?_) (fun z => absurd (by decide) z)
        refine v_go rfl ?_
        refine v_ca rfl ?_
        refine c_mumbling hI.1 hc hk3 ?_
        rw [ht, m_up_ii]
        exact v_rt rfl trivial (h _ ((frC.refl _).up (by omega)) (InvC_tr _ hI))
      · have ht : D 34 33 = tr := hI.2.2.2.2.1
        refine v_in (tb' := t_X5_tell) (rk' := 1) rfl rfl rfl ?_
        refine v_go rfl ?_
        refine v_ca rfl ?_
        refine c_noCrier hI.1.2.1 hk6 (fun _ => ?_) (fun z => absurd hx z)
        refine v_go rfl ?_
        refine v_bT rfl (by decide) ?_
        refine v_go rfl ?_
        refine v_sd rfl hin ?_
        rw [hcl, (hI.1.2.2.2.1 c hc).1, hkd]
        refine v_go rfl ?_
        refine v_bT rfl (by decide) ?_
        refine v_go rfl ?_
        refine v_bF rfl (by decide) ?_
        refine v_go rfl ?_
        refine v_ca rfl ?_
        refine c_traced ?_
        refine v_go rfl ?_
        refine v_ca rfl ?_
        refine c_traced ?_
        rw [m_up_s, ht, m_up_ii]
        refine v_go rfl ?_
        refine v_bT rfl (by decide) ?_
        refine v_go rfl ?_
        refine v_sd rfl hin ?_
        rw [hcl]
        have e : m_up D 34 33 (31 * (31 * tr + 2) + 1) 38 c = nI (S.2.2.1 3 c) := (hI.1.2.2.2.1 c hc).2.1
        rw [e]
        refine v_go rfl ?_
        refine v_bT rfl (by decide) ?_
        refine v_go rfl ?_
        refine v_bF rfl (by decide) ?_
        exact v_go rfl (v_rt rfl trivial (h _ ((frM.refl _).up (by omega)) (InvM_tr _ hI)))
    · have e2 : nI (S.2.2.1 3 c) + 100 + nI (S.2.2.1 3 c) = 2 * nI (S.2.2.1 3 c) + 100 := by
        have h3 := ho.2.2.1
        generalize S.2.2.1 3 c = p at h3
        match p, h3 with
        | 0, _ => rfl
        | 1, _ => rfl
        | 2, _ => rfl
        | 3, _ => rfl
      refine ⟨nI (S.2.2.1 3 c) + 100 + nI (S.2.2.1 3 c), (S, rd, sh, 31 * (31 * (31 * (31 * tr + 3) + 2) + 1) + 1, fl), hz, fun D Q hI h => ?_, fun D Q hI h => ?_⟩
      · have ht : D 0 8 = tr := hI.2.2.2.2.1
        refine v_in (tb' := t_X4_tell) (rk' := 1) rfl rfl rfl ?_
        refine v_go rfl ?_
        refine v_ca rfl ?_
        refine c_isCrier hI.1.2.1 hk6 (fun _ => ?_) (fun z => absurd hx z)
        refine v_go rfl ?_
        refine v_bT rfl (by decide) ?_
        refine v_go rfl ?_
        refine v_sd rfl hin ?_
        rw [hcl, (hI.1.2.2.2.1 c hc).1, hkd]
        refine v_sw rfl ?_
        refine br_c (fun z => absurd z (by decide)) (fun _ => ?_)
        refine br_c (fun z => absurd z (by decide)) (fun _ => ?_)
        refine v_go rfl ?_
        refine v_ca rfl ?_
        refine v_in (tb' := t_X4_chantingTelling) (rk' := 1) rfl rfl rfl ?_
        refine v_go rfl ?_
        refine v_ca rfl ?_
        refine c_leave ?_
        refine v_go rfl ?_
        refine v_ca rfl ?_
        refine c_mumbling (D := m_up D 0 8 (31 * D 0 8 + 3)) hI.1 hc hk3 ?_
        rw [m_up_s, ht, m_up_ii, m_up_ii]
        refine v_go rfl ?_
        refine v_ca rfl ?_
        refine c_plain (D := m_up D 0 8 (31 * (31 * (31 * tr + 3) + 2) + 1)) hI.1 hc hk3 ?_
        rw [m_up_s, m_up_ii]
        refine v_go rfl ?_
        refine v_rt rfl trivial ?_
        exact v_rt rfl trivial (h _ ((frC.refl _).up (by omega)) (InvC_tr _ hI))
      · have ht : D 34 33 = tr := hI.2.2.2.2.1
        refine v_in (tb' := t_X5_tell) (rk' := 1) rfl rfl rfl ?_
        refine v_go rfl ?_
        refine v_ca rfl ?_
        refine c_noCrier hI.1.2.1 hk6 (fun _ => ?_) (fun z => absurd hx z)
        refine v_go rfl ?_
        refine v_bT rfl (by decide) ?_
        refine v_go rfl ?_
        refine v_sd rfl hin ?_
        rw [hcl, (hI.1.2.2.2.1 c hc).1, hkd]
        refine v_go rfl ?_
        refine v_bF rfl (by decide) ?_
        refine v_go rfl ?_
        refine v_ca rfl ?_
        refine c_traced ?_
        refine v_go rfl ?_
        refine v_bF rfl (by decide) ?_
        refine v_go rfl ?_
        refine v_ca rfl ?_
        refine c_traced ?_
        refine v_go rfl ?_
        refine v_ca rfl ?_
        refine c_traced ?_
        rw [m_up_s, m_up_ii, m_up_s, m_up_ii, ht]
        refine v_go rfl ?_
        refine v_bF rfl (by decide) ?_
        refine v_go rfl ?_
        refine v_ca rfl ?_
        refine c_traced ?_
        rw [m_up_s, m_up_ii]
        refine v_go rfl ?_
        refine v_sd rfl hin ?_
        rw [hcl]
        have e : m_up D 34 33 (31 * (31 * (31 * (31 * tr + 3) + 2) + 1) + 1) 38 c = nI (S.2.2.1 3 c) := (hI.1.2.2.2.1 c hc).2.1
        rw [e]
        refine v_go rfl ?_
        refine v_bT rfl (by decide) ?_
        refine v_go rfl ?_
        refine v_bT rfl (by decide) ?_
        refine v_go rfl ?_
        rw [← e2]
        exact v_rt rfl trivial (h _ ((frM.refl _).up (by omega)) (InvM_tr _ hI))
  · refine ⟨-1, (S, rd, sh, tr, fl), hz, fun D Q hI h => ?_, fun D Q hI h => ?_⟩
    · refine v_in (tb' := t_X4_tell) (rk' := 1) rfl rfl rfl ?_
      refine v_go rfl ?_
      refine v_ca rfl ?_
      refine c_isCrier hI.1.2.1 hk6 (fun z => absurd z hx) (fun _ => ?_)
      refine v_go rfl ?_
      refine v_bF rfl (by decide) ?_
      exact v_go rfl (v_rt rfl trivial (h _ (frC.refl _) hI))
    · refine v_in (tb' := t_X5_tell) (rk' := 1) rfl rfl rfl ?_
      refine v_go rfl ?_
      refine v_ca rfl ?_
      refine c_noCrier hI.1.2.1 hk6 (fun z => absurd z hx) (fun _ => ?_)
      refine v_go rfl ?_
      refine v_bF rfl (by decide) ?_
      exact v_go rfl (v_rt rfl trivial (h _ (frM.refl _) hI))
