/-! ===== cell, copy ===== -/
theorem c_taking {L d k : Nat} {y : Int32} {s : Option (Nat × Nat × (Nat → Int32))} {D : m_D} {Q : m_K} (hk : k < 4) (hs : shC k D s) (h1 : s = none → Q (some (.int 1)) D) (h0 : ∀ la n f, s = some (la, n, f) → nI la = y → Q (some (.int 0)) D) (h2 : ∀ la n f, s = some (la, n, f) → ¬ nI la = y → Q (some (.int 2)) D) : m_call L (d + 1) 7 [.ref (24 + 2 * k), .int y] D Q := by
  have hk4 : k = 0 ∨ k = 1 ∨ k = 2 ∨ k = 3 := by omega
  match s, hs, h1, h0, h2 with
  | none, hs, h1, _, _ =>
    rcases hk4 with rfl | rfl | rfl | rfl
    all_goals
      refine v_in (tb' := t_X1_faultOfTaking) (rk' := 1) rfl rfl rfl ?_
      refine v_go rfl ?_
      refine v_bF rfl (fun z => z hs) ?_
      exact v_go rfl (v_rt rfl trivial (h1 rfl))
  | some (la, n, f), hs, _, h0, h2 =>
    obtain ⟨k1, k2, -, -⟩ := hs
    have hne : ¬ D (24 + 2 * k) 1 = 0 := by rw [k1]; decide
    have h0 := h0 la n f rfl
    have h2 := h2 la n f rfl
    rw [← k2] at h0 h2
    rcases hk4 with rfl | rfl | rfl | rfl
    all_goals
      refine v_in (tb' := t_X1_faultOfTaking) (rk' := 1) rfl rfl rfl ?_
      refine v_go rfl ?_
      refine v_bT rfl hne ?_
      refine v_go rfl ?_
      refine v_br rfl (fun z => ?_) (fun z => ?_)
      · exact v_go rfl (v_rt rfl trivial (h2 z))
      · exact v_go rfl (v_rt rfl trivial (h0 (Decidable.not_not.mp z)))
theorem c_failedLong {L d : Nat} {v : Int32} {D : m_D} {Q : m_K} (h : Q (some (.long (-9223372036854775808))) (m_up D 34 0 v)) : m_call L (d + 2) 96 [.ref 34, .int v] D Q := by
  refine v_in (tb' := t_X5_failedLong) (rk' := 3) rfl rfl rfl ?_
  refine v_go rfl ?_
  refine v_ca rfl ?_
  refine v_in (tb' := t_X5_lost) (rk' := 3) rfl rfl rfl ?_
  refine v_go rfl ?_
  refine v_rt rfl trivial ?_
  exact v_rt rfl trivial h
theorem c_lostM {L d : Nat} {D : m_D} {Q : m_K} (h : Q (some (.long (-9223372036854775808))) D) : m_call L (d + 1) 91 [] D Q := by
  refine v_in (tb' := t_X5_lost) (rk' := 3) rfl rfl rfl ?_
  refine v_go rfl ?_
  exact v_rt rfl trivial h
theorem s_cell (x y w : Int32) : StepL 68 156 [.int x, .int y, .int w] := by
  intro L Z hz
  obtain ⟨S, rd, sh, tr, fl⟩ := Z
  have hg : (2 : Int64).toInt = ((3 : Nat) : Int) - 1 := by decide
  by_cases hx : vp_in x 4
  · by_cases hw : vp_in w 3
    · obtain ⟨k, hk, rfl⟩ := vp_in_of hx (by omega)
      have hck : (nI k).toNatClampNeg = k := nI_clamp (by omega)
      have hk4 : k = 0 ∨ k = 1 ∨ k = 2 ∨ k = 3 := by omega
      have hk0 := hk
      have h60 : ∀ la n f, sh k = some (la, n, f) → n ≤ 60 := fun la n f e => (hz.2.2.2.2 k hk la n f e).2
      cases hs : sh k with
      | none =>
        refine ⟨-9223372036854775808, (S, rd, sh, tr, 1), hz, fun D Q hI h => ?_, fun D Q hI h => ?_⟩
        · have hsk : shC k (m_up D 0 9 0) (sh k) := (InvC_fl 0 hI).2.2.2.1 k hk
          have h := h (m_up D 0 9 1) ((frC.refl _).up (by omega)) (InvC_fl _ hI)
          refine v_in (tb' := t_X4_cell) (rk' := 3) rfl rfl rfl ?_
          refine v_go rfl ?_
          refine v_ca rfl ?_
          refine c_isSheet (fun _ => ?_) (fun z => absurd hx z)
          refine v_go rfl ?_
          refine v_bF rfl (by decide) ?_
          refine v_go rfl ?_
          refine v_ca rfl ?_
          refine c_isLane (fun _ => ?_) (fun z => absurd hw z)
          refine v_go rfl ?_
          refine v_bT rfl (by decide) ?_
          refine v_go rfl ?_
          refine v_al rfl hx (fun q hq => ?_)
          have hq := al_q hk hq
          subst hq
          rcases hk4 with rfl | rfl | rfl | rfl
          all_goals
            refine v_go rfl ?_
            refine v_ca rfl ?_
            refine c_taking hk0 hsk (fun _ => ?_) (fun a b c e => by rw [hs] at e; cases e) (fun a b c e => by rw [hs] at e; cases e)
            refine v_go rfl ?_
            refine v_bT rfl (by decide) ?_
            refine v_go rfl ?_
            refine v_bF rfl (by decide) ?_
            refine v_go rfl ?_
            rw [m_up_ii]
            exact v_rt rfl trivial h
        · have hI0 := InvM_fl 0 hI
          have hsk : shM k (m_up D 34 0 0) (sh k) := hI0.2.2.2.1 k hk
          have hs56 : m_up D 34 0 0 56 k = -1 := by rw [hs] at hsk; exact hsk
          refine v_in (tb' := t_X5_cell) (rk' := 3) rfl rfl rfl ?_
          refine v_go rfl ?_
          refine v_ca rfl ?_
          refine c_noSheet (fun _ => ?_) (fun z => absurd hx z)
          refine v_go rfl ?_
          refine v_bF rfl (by decide) ?_
          refine v_go rfl ?_
          refine v_ca rfl ?_
          refine c_in (fun _ _ => ?_) (fun z => absurd ((in_iff hg).mpr hw) z)
          refine v_go rfl ?_
          refine v_bT rfl (by decide) ?_
          refine v_go rfl ?_
          refine v_sd rfl hx ?_
          rw [hck, hs56]
          refine v_bT rfl (by decide) ?_
          refine v_go rfl ?_
          refine v_ca rfl ?_
          refine c_noCell hk hsk h60 (fun _ => ?_) (fun la n f e => by rw [hs] at e; cases e) (fun la n f e => by rw [hs] at e; cases e)
          refine v_go rfl ?_
          refine v_bF rfl (by decide) ?_
          refine v_go rfl ?_
          refine v_ca rfl ?_
          refine c_noCell hk hsk h60 (fun _ => ?_) (fun la n f e => by rw [hs] at e; cases e) (fun la n f e => by rw [hs] at e; cases e)
          refine v_ca rfl ?_
          refine c_failedLong ?_
          rw [m_up_ii]
          exact v_go rfl (v_rt rfl trivial (h _ ((frM.refl _).up (by omega)) (InvM_fl _ hI)))
      | some s0 =>
        obtain ⟨la, n, f⟩ := s0
        have hn60 := h60 la n f hs
        by_cases hlw : nI la = w
        · by_cases hy : vp_in y n
          · obtain ⟨i, hi, rfl⟩ := vp_in_of hy (by omega)
            have hci : (nI i).toNatClampNeg = i := nI_clamp (by omega)
            have hin60 : vp_in (nI i) 60 := vp_in_nI (by omega) (by omega)
            refine ⟨(f i).toInt64, (S, rd, sh, tr, 0), hz, fun D Q hI h => ?_, fun D Q hI h => ?_⟩
            · have hsk : shC k (m_up D 0 9 0) (sh k) := (InvC_fl 0 hI).2.2.2.1 k hk
              have h := h (m_up D 0 9 0) ((frC.refl _).up (by omega)) (InvC_fl _ hI)
              have hsk2 := hsk
              rw [hs] at hsk2
              obtain ⟨k1, k2, k3, k4⟩ := hsk2
              have k5 := k4 i hi
              rw [← k5] at h
              refine v_in (tb' := t_X4_cell) (rk' := 3) rfl rfl rfl ?_
              refine v_go rfl ?_
              refine v_ca rfl ?_
              refine c_isSheet (fun _ => ?_) (fun z => absurd hx z)
              refine v_go rfl ?_
              refine v_bF rfl (by decide) ?_
              refine v_go rfl ?_
              refine v_ca rfl ?_
              refine c_isLane (fun _ => ?_) (fun z => absurd hw z)
              refine v_go rfl ?_
              refine v_bT rfl (by decide) ?_
              refine v_go rfl ?_
              refine v_al rfl hx (fun q hq => ?_)
              have hq := al_q hk hq
              subst hq
              rcases hk4 with rfl | rfl | rfl | rfl
              all_goals
                refine v_go rfl ?_
                refine v_ca rfl ?_
                refine c_taking hk0 hsk (fun e => by rw [hs] at e; cases e) (fun a b c e _ => ?_) (fun a b c e z => by rw [hs] at e; cases e; exact absurd hlw z)
                refine v_go rfl ?_
                refine v_bF rfl (by decide) ?_
                refine v_go rfl ?_
                refine v_ca rfl ?_
                refine c_hasCell hk0 k3 hn60 (fun _ => ?_) (fun z => absurd hy z)
                refine v_go rfl ?_
                refine v_bT rfl (by decide) ?_
                refine v_go rfl ?_
                refine v_bT rfl (by decide) ?_
                refine v_go rfl ?_
                refine v_sd rfl hin60 ?_
                rw [hci]
                refine v_go rfl ?_
                exact v_rt rfl trivial h
            · have hI0 := InvM_fl 0 hI
              have hsk : shM k (m_up D 34 0 0) (sh k) := hI0.2.2.2.1 k hk
              have hsk2 := hsk
              rw [hs] at hsk2
              obtain ⟨k1, k2, k3⟩ := hsk2
              have e60 : (60 : Int32) * nI k + nI i = nI (60 * k + i) := by rw [show (60 : Int32) = nI 60 from rfl, pk_mul, nI_add]
              have hin2 : vp_in (nI (60 * k + i)) 240 := vp_in_nI (by omega) (by omega)
              have hc2 : (nI (60 * k + i)).toNatClampNeg = 60 * k + i := nI_clamp (by omega)
              refine v_in (tb' := t_X5_cell) (rk' := 3) rfl rfl rfl ?_
              refine v_go rfl ?_
              refine v_ca rfl ?_
              refine c_noSheet (fun _ => ?_) (fun z => absurd hx z)
              refine v_go rfl ?_
              refine v_bF rfl (by decide) ?_
              refine v_go rfl ?_
              refine v_ca rfl ?_
              refine c_in (fun _ _ => ?_) (fun z => absurd ((in_iff hg).mpr hw) z)
              refine v_go rfl ?_
              refine v_bT rfl (by decide) ?_
              refine v_go rfl ?_
              refine v_sd rfl hx ?_
              rw [hck, k1]
              refine v_bF rfl (nI_pos (by omega)) ?_
              refine v_go rfl ?_
              refine v_sd rfl hx ?_
              rw [hck, k2]
              refine v_go rfl ?_
              refine v_bT rfl hlw ?_
              refine v_go rfl ?_
              refine v_ca rfl ?_
              refine c_noCell hk hsk h60 (fun e => by rw [hs] at e; cases e) (fun a b c e _ => ?_) (fun a b c e z => by rw [hs] at e; cases e; exact absurd hy z)
              refine v_go rfl ?_
              refine v_bT rfl (by decide) ?_
              refine v_go rfl ?_
              rw [e60]
              refine v_sd rfl hin2 ?_
              rw [hc2, k3 i hi]
              exact v_go rfl (v_rt rfl trivial (h _ ((frM.refl _).up (by omega)) hI0))
          · refine ⟨-9223372036854775808, (S, rd, sh, tr, 3), hz, fun D Q hI h => ?_, fun D Q hI h => ?_⟩
            · have hsk : shC k (m_up D 0 9 0) (sh k) := (InvC_fl 0 hI).2.2.2.1 k hk
              have h := h (m_up D 0 9 3) ((frC.refl _).up (by omega)) (InvC_fl _ hI)
              have hsk2 := hsk
              rw [hs] at hsk2
              obtain ⟨k1, k2, k3, k4⟩ := hsk2
              refine v_in (tb' := t_X4_cell) (rk' := 3) rfl rfl rfl ?_
              refine v_go rfl ?_
              refine v_ca rfl ?_
              refine c_isSheet (fun _ => ?_) (fun z => absurd hx z)
              refine v_go rfl ?_
              refine v_bF rfl (by decide) ?_
              refine v_go rfl ?_
              refine v_ca rfl ?_
              refine c_isLane (fun _ => ?_) (fun z => absurd hw z)
              refine v_go rfl ?_
              refine v_bT rfl (by decide) ?_
              refine v_go rfl ?_
              refine v_al rfl hx (fun q hq => ?_)
              have hq := al_q hk hq
              subst hq
              rcases hk4 with rfl | rfl | rfl | rfl
              all_goals
                refine v_go rfl ?_
                refine v_ca rfl ?_
                refine c_taking hk0 hsk (fun e => by rw [hs] at e; cases e) (fun a b c e _ => ?_) (fun a b c e z => by rw [hs] at e; cases e; exact absurd hlw z)
                refine v_go rfl ?_
                refine v_bF rfl (by decide) ?_
                refine v_go rfl ?_
                refine v_ca rfl ?_
                refine c_hasCell hk0 k3 hn60 (fun z => absurd z hy) (fun _ => ?_)
                refine v_go rfl ?_
                refine v_bF rfl (by decide) ?_
                refine v_go rfl ?_
                refine v_bF rfl (by decide) ?_
                refine v_go rfl ?_
                rw [m_up_ii]
                exact v_rt rfl trivial h
            · have hI0 := InvM_fl 0 hI
              have hsk : shM k (m_up D 34 0 0) (sh k) := hI0.2.2.2.1 k hk
              have hsk2 := hsk
              rw [hs] at hsk2
              obtain ⟨k1, k2, k3⟩ := hsk2
              refine v_in (tb' := t_X5_cell) (rk' := 3) rfl rfl rfl ?_
              refine v_go rfl ?_
              refine v_ca rfl ?_
              refine c_noSheet (fun _ => ?_) (fun z => absurd hx z)
              refine v_go rfl ?_
              refine v_bF rfl (by decide) ?_
              refine v_go rfl ?_
              refine v_ca rfl ?_
              refine c_in (fun _ _ => ?_) (fun z => absurd ((in_iff hg).mpr hw) z)
              refine v_go rfl ?_
              refine v_bT rfl (by decide) ?_
              refine v_go rfl ?_
              refine v_sd rfl hx ?_
              rw [hck, k1]
              refine v_bF rfl (nI_pos (by omega)) ?_
              refine v_go rfl ?_
              refine v_sd rfl hx ?_
              rw [hck, k2]
              refine v_go rfl ?_
              refine v_bT rfl hlw ?_
              refine v_go rfl ?_
              refine v_ca rfl ?_
              refine c_noCell hk hsk h60 (fun e => by rw [hs] at e; cases e) (fun a b c e z => by rw [hs] at e; cases e; exact absurd z hy) (fun a b c e _ => ?_)
              refine v_go rfl ?_
              refine v_bF rfl (by decide) ?_
              refine v_go rfl ?_
              refine v_ca rfl ?_
              refine c_noCell hk hsk h60 (fun e => by rw [hs] at e; cases e) (fun a b c e z => by rw [hs] at e; cases e; exact absurd z hy) (fun a b c e _ => ?_)
              refine v_ca rfl ?_
              refine c_failedLong ?_
              rw [m_up_ii]
              exact v_go rfl (v_rt rfl trivial (h _ ((frM.refl _).up (by omega)) (InvM_fl _ hI)))
        · refine ⟨-9223372036854775808, (S, rd, sh, tr, 2), hz, fun D Q hI h => ?_, fun D Q hI h => ?_⟩
          · have hsk : shC k (m_up D 0 9 0) (sh k) := (InvC_fl 0 hI).2.2.2.1 k hk
            have h := h (m_up D 0 9 2) ((frC.refl _).up (by omega)) (InvC_fl _ hI)
            refine v_in (tb' := t_X4_cell) (rk' := 3) rfl rfl rfl ?_
            refine v_go rfl ?_
            refine v_ca rfl ?_
            refine c_isSheet (fun _ => ?_) (fun z => absurd hx z)
            refine v_go rfl ?_
            refine v_bF rfl (by decide) ?_
            refine v_go rfl ?_
            refine v_ca rfl ?_
            refine c_isLane (fun _ => ?_) (fun z => absurd hw z)
            refine v_go rfl ?_
            refine v_bT rfl (by decide) ?_
            refine v_go rfl ?_
            refine v_al rfl hx (fun q hq => ?_)
            have hq := al_q hk hq
            subst hq
            rcases hk4 with rfl | rfl | rfl | rfl
            all_goals
              refine v_go rfl ?_
              refine v_ca rfl ?_
              refine c_taking hk0 hsk (fun e => by rw [hs] at e; cases e) (fun a b c e z => by rw [hs] at e; cases e; exact absurd z hlw) (fun a b c e _ => ?_)
              refine v_go rfl ?_
              refine v_bT rfl (by decide) ?_
              refine v_go rfl ?_
              refine v_bF rfl (by decide) ?_
              refine v_go rfl ?_
              rw [m_up_ii]
              exact v_rt rfl trivial h
          · have hI0 := InvM_fl 0 hI
            have hsk : shM k (m_up D 34 0 0) (sh k) := hI0.2.2.2.1 k hk
            have hsk2 := hsk
            rw [hs] at hsk2
            obtain ⟨k1, k2, k3⟩ := hsk2
            refine v_in (tb' := t_X5_cell) (rk' := 3) rfl rfl rfl ?_
            refine v_go rfl ?_
            refine v_ca rfl ?_
            refine c_noSheet (fun _ => ?_) (fun z => absurd hx z)
            refine v_go rfl ?_
            refine v_bF rfl (by decide) ?_
            refine v_go rfl ?_
            refine v_ca rfl ?_
            refine c_in (fun _ _ => ?_) (fun z => absurd ((in_iff hg).mpr hw) z)
            refine v_go rfl ?_
            refine v_bT rfl (by decide) ?_
            refine v_go rfl ?_
            refine v_sd rfl hx ?_
            rw [hck, k1]
            refine v_bF rfl (nI_pos (by omega)) ?_
            refine v_go rfl ?_
            refine v_sd rfl hx ?_
            rw [hck, k2]
            refine v_go rfl ?_
            refine v_bF rfl hlw ?_
            refine v_go rfl ?_
            refine v_ca rfl ?_
            refine c_failedLong ?_
            rw [m_up_ii]
            exact v_rt rfl trivial (h _ ((frM.refl _).up (by omega)) (InvM_fl _ hI))
    · refine ⟨-9223372036854775808, (S, rd, sh, tr, 0), hz, fun D Q hI h => ?_, fun D Q hI h => ?_⟩
      · refine v_in (tb' := t_X4_cell) (rk' := 3) rfl rfl rfl ?_
        refine v_go rfl ?_
        refine v_ca rfl ?_
        refine c_isSheet (fun _ => ?_) (fun z => absurd hx z)
        refine v_go rfl ?_
        refine v_bF rfl (by decide) ?_
        refine v_go rfl ?_
        refine v_ca rfl ?_
        refine c_isLane (fun z => absurd z hw) (fun _ => ?_)
        refine v_go rfl ?_
        refine v_bF rfl (by decide) ?_
        exact v_go rfl (v_rt rfl trivial (h _ ((frC.refl _).up (by omega)) (InvC_fl _ hI)))
      · refine v_in (tb' := t_X5_cell) (rk' := 3) rfl rfl rfl ?_
        refine v_go rfl ?_
        refine v_ca rfl ?_
        refine c_noSheet (fun _ => ?_) (fun z => absurd hx z)
        refine v_go rfl ?_
        refine v_bF rfl (by decide) ?_
        refine v_go rfl ?_
        refine v_ca rfl ?_
        refine c_in (fun a b => absurd ((in_iff hg).mp ⟨a, b⟩) hw) (fun _ => ?_)
        refine v_go rfl ?_
        refine v_bF rfl (by decide) ?_
        refine v_go rfl ?_
        refine v_ca rfl ?_
        refine c_lostM ?_
        exact v_rt rfl trivial (h _ ((frM.refl _).up (by omega)) (InvM_fl _ hI))
  · refine ⟨-9223372036854775808, (S, rd, sh, tr, 0), hz, fun D Q hI h => ?_, fun D Q hI h => ?_⟩
    · refine v_in (tb' := t_X4_cell) (rk' := 3) rfl rfl rfl ?_
      refine v_go rfl ?_
      refine v_ca rfl ?_
      refine c_isSheet (fun z => absurd z hx) (fun _ => ?_)
      refine v_go rfl ?_
      refine v_bT rfl (by decide) ?_
      exact v_go rfl (v_rt rfl trivial (h _ ((frC.refl _).up (by omega)) (InvC_fl _ hI)))
    · refine v_in (tb' := t_X5_cell) (rk' := 3) rfl rfl rfl ?_
      refine v_go rfl ?_
      refine v_ca rfl ?_
      refine c_noSheet (fun z => absurd z hx) (fun _ => ?_)
      refine v_go rfl ?_
      refine v_bT rfl (by decide) ?_
      refine v_go rfl ?_
      refine v_ca rfl ?_
      refine c_lostM ?_
      exact v_rt rfl trivial (h _ ((frM.refl _).up (by omega)) (InvM_fl _ hI))
