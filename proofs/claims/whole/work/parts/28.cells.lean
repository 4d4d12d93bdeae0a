/-! ===== put, cell ===== -/
def cutI (la : Nat) (v : Int32) : Int32 := if la = 0 then v.toInt8.toInt32 else if la = 1 then v.toInt16.toInt32 else v
theorem c_cut {L d k la : Nat} {v : Int32} {D : m_D} {Q : m_K} (hk : k < 4) (hl : D (24 + 2 * k) 2 = nI la) (h3 : la < 3) (h : Q (some (.int (cutI la v))) D) : m_call L (d + 1) 10 [.ref (24 + 2 * k), .int v] D Q := by
  have hk4 : k = 0 ∨ k = 1 ∨ k = 2 ∨ k = 3 := by omega
  rcases hk4 with rfl | rfl | rfl | rfl
  all_goals
    refine v_in (tb' := t_X1_cut) (rk' := 1) rfl rfl rfl ?_
    refine v_go rfl ?_
    refine Eq.mp (congrArg (fun z => m_V L d Q t_X1_cut 1 (4, _, [.int z], D)) hl.symm) ?_
    refine v_sw rfl ?_
    match la, h3, h with
    | 0, _, h =>
      refine br_c (fun _ => ?_) (fun z => absurd (by decide) z)
      exact v_go rfl (v_rt rfl trivial h)
    | 1, _, h =>
      refine br_c (fun z => absurd z (by decide)) (fun _ => ?_)
      refine br_c (fun _ => ?_) (fun z => absurd (by decide) z)
      exact v_go rfl (v_rt rfl trivial h)
    | 2, _, h =>
      refine br_c (fun z => absurd z (by decide)) (fun _ => ?_)
      refine br_c (fun z => absurd z (by decide)) (fun _ => ?_)
      exact v_go rfl (v_rt rfl trivial h)
theorem c_hasCell {L d k n : Nat} {x : Int32} {D : m_D} {Q : m_K} (hk : k < 4) (hn : D (24 + 2 * k) 3 = nI n) (h60 : n ≤ 60) (h1 : vp_in x n → Q (some (.int 1)) D) (h0 : ¬ vp_in x n → Q (some (.int 0)) D) : m_call L (d + 1) 8 [.ref (24 + 2 * k), .int x] D Q := by
  rw [vi_iff (by omega)] at h1 h0
  have hk4 : k = 0 ∨ k = 1 ∨ k = 2 ∨ k = 3 := by omega
  rcases hk4 with rfl | rfl | rfl | rfl
  all_goals
    refine v_in (tb' := t_X1_hasCell) (rk' := 2) rfl rfl rfl ?_
    refine v_go rfl ?_
    refine v_br rfl (fun z => ?_) (fun z => ?_)
    · exact v_go rfl (v_rt rfl (Or.inl rfl) (h0 (fun y => y.1 z)))
    · refine v_go rfl ?_
      refine v_br rfl (fun z2 => ?_) (fun z2 => ?_)
      · exact v_go rfl (v_rt rfl (Or.inl rfl) (h0 (fun y => y.2 (hn ▸ z2))))
      · exact v_go rfl (v_rt rfl (Or.inr rfl) (h1 ⟨z, fun y => z2 (hn.symm ▸ y)⟩))
theorem c_noCell {L d k : Nat} {x : Int32} {s : Option (Nat × Nat × (Nat → Int32))} {D : m_D} {Q : m_K} (hk : k < 4) (hs : shM k D s) (h60 : ∀ la n f, s = some (la, n, f) → n ≤ 60) (hn : s = none → Q (some (.int 1)) D) (h0 : ∀ la n f, s = some (la, n, f) → vp_in x n → Q (some (.int 0)) D) (h3 : ∀ la n f, s = some (la, n, f) → ¬ vp_in x n → Q (some (.int 3)) D) : m_call L (d + 2) 154 [.ref 34, .int (nI k), .int x] D Q := by
  have hck : (nI k).toNatClampNeg = k := nI_clamp (by omega)
  have hin : vp_in (nI k) 4 := vp_in_nI (by omega) (by omega)
  refine v_in (tb' := t_X5_noCell) (rk' := 1) rfl rfl rfl ?_
  refine v_go rfl ?_
  refine v_sd rfl hin ?_
  rw [hck]
  match s, hs, h60, hn, h0, h3 with
  | none, hs, _, hn, _, _ =>
    have hs : D 56 k = -1 := hs
    rw [hs]
    refine v_bF rfl (by decide) ?_
    exact v_go rfl (v_rt rfl trivial (hn rfl))
  | some (la, n, f), hs, h60, _, h0, h3 =>
    have hn60 := h60 la n f rfl
    have e56 : D 56 k = nI n := hs.1
    rw [e56]
    refine v_bT rfl (nI_pos' (by omega)) ?_
    refine v_go rfl ?_
    refine v_sd rfl hin ?_
    rw [hck, e56]
    refine v_go rfl ?_
    refine v_ca rfl ?_
    refine c_in (fun a b => ?_) (fun a => ?_)
    · refine v_go rfl ?_
      refine v_bF rfl (by decide) ?_
      exact v_go rfl (v_rt rfl trivial (h0 la n f rfl ((in_iff (in_n1 (by omega))).mp ⟨a, b⟩)))
    · refine v_go rfl ?_
      refine v_bT rfl (by decide) ?_
      exact v_go rfl (v_rt rfl trivial (h3 la n f rfl (fun z => a ((in_iff (in_n1 (by omega))).mpr z))))
theorem s_put (x y w : Int32) : StepI 67 155 [.int x, .int y, .int w] := by
  intro L Z hz
  obtain ⟨S, rd, sh, tr, fl⟩ := Z
  by_cases hx : vp_in x 4
  · obtain ⟨k, hk, rfl⟩ := vp_in_of hx (by omega)
    have hck : (nI k).toNatClampNeg = k := nI_clamp (by omega)
    have hk4 : k = 0 ∨ k = 1 ∨ k = 2 ∨ k = 3 := by omega
    have h60 : ∀ la n f, sh k = some (la, n, f) → n ≤ 60 := fun la n f e => (hz.2.2.2.2 k hk la n f e).2
    cases hs : sh k with
    | none =>
      refine ⟨-11, (S, rd, sh, tr, 1), hz, fun D Q hI h => ?_, fun D Q hI h => ?_⟩
      · have hsk : shC k (m_up D 0 9 0) (sh k) := (InvC_fl 0 hI).2.2.2.1 k hk
        rw [hs] at hsk
        have h := h (m_up D 0 9 1) ((frC.refl _).up (by omega)) (InvC_fl _ hI)
        refine v_in (tb' := t_X4_put) (rk' := 1) rfl rfl rfl ?_
        refine v_go rfl ?_
        refine v_ca rfl ?_
        refine c_isSheet (fun _ => ?_) (fun z => absurd hx z)
        refine v_go rfl ?_
        refine v_bT rfl (by decide) ?_
        refine v_go rfl ?_
        refine v_al rfl hx (fun q hq => ?_)
        have hq := al_q hk hq
        subst hq
        rcases hk4 with rfl | rfl | rfl | rfl
        all_goals
          refine v_go rfl ?_
          refine v_bF rfl (fun z => z hsk) ?_
          refine v_go rfl ?_
          refine v_ca rfl ?_
          refine c_faulted ?_
          rw [m_up_ii]
          exact v_rt rfl trivial h
      · have hsk : shM k D (sh k) := hI.2.2.2.1 k hk
        refine v_in (tb' := t_X5_put) (rk' := 1) rfl rfl rfl ?_
        refine v_go rfl ?_
        refine v_ca rfl ?_
        refine c_noSheet (fun _ => ?_) (fun z => absurd hx z)
        refine v_go rfl ?_
        refine v_bT rfl (by decide) ?_
        refine v_go rfl ?_
        refine v_ca rfl ?_
        refine c_noCell hk hsk h60 (fun _ => ?_) (fun la n f e => by rw [hs] at e; cases e) (fun la n f e => by rw [hs] at e; cases e)
        refine v_go rfl ?_
        refine v_bF rfl (by decide) ?_
        refine v_go rfl ?_
        refine v_ca rfl ?_
        refine c_noCell hk hsk h60 (fun _ => ?_) (fun la n f e => by rw [hs] at e; cases e) (fun la n f e => by rw [hs] at e; cases e)
        refine v_go rfl ?_
        refine v_ca rfl ?_
        refine c_failed ?_
        exact v_rt rfl trivial (h _ ((frM.refl _).up (by omega)) (InvM_fl _ hI))
    | some s0 =>
      obtain ⟨la, n, f⟩ := s0
      have hn60 := h60 la n f hs
      have hla : la < 3 := (hz.2.2.2.2 k hk la n f hs).1
      by_cases hy : vp_in y n
      · obtain ⟨i, hi, rfl⟩ := vp_in_of hy (by omega)
        have hci : (nI i).toNatClampNeg = i := nI_clamp (by omega)
        have hin60 : vp_in (nI i) 60 := vp_in_nI (by omega) (by omega)
        refine ⟨1, (S, rd, setH sh k (some (la, n, upd f i (cutI la w))), tr, 0), okZ_sh hz (fun a b c e => by cases e; omega), fun D Q hI h => ?_, fun D Q hI h => ?_⟩
        · have hI0 := InvC_fl 0 hI
          have hsk : shC k (m_up D 0 9 0) (sh k) := hI0.2.2.2.1 k hk
          rw [hs] at hsk
          obtain ⟨k1, k2, k3, k4⟩ := hsk
          have h := h (m_up (m_up D 0 9 0) (25 + 2 * k) i (cutI la w)) (((frC.refl _).up (by omega)).up (by omega)) (InvC_sh _ hI0 hk (fun a _ _ hc => m_up_ne hc) ⟨by rw [m_up_ne (by omega)]; exact k1, by rw [m_up_ne (by omega)]; exact k2, by rw [m_up_ne (by omega)]; exact k3, fun j hj => by
            rw [m_up_at]
            by_cases e : j = i
            · rw [e, pk_us, pk_us]
            · rw [pk_un e, pk_un e]
              exact k4 j hj⟩)
          refine v_in (tb' := t_X4_put) (rk' := 1) rfl rfl rfl ?_
          refine v_go rfl ?_
          refine v_ca rfl ?_
          refine c_isSheet (fun _ => ?_) (fun z => absurd hx z)
          refine v_go rfl ?_
          refine v_bT rfl (by decide) ?_
          refine v_go rfl ?_
          refine v_al rfl hx (fun q hq => ?_)
          have hq := al_q hk hq
          subst hq
          have hne : ¬ m_up D 0 9 0 (24 + 2 * k) 1 = 0 := by rw [k1]; decide
          have hk0 := hk
          rcases hk4 with rfl | rfl | rfl | rfl
          all_goals
            refine v_go rfl ?_
            refine v_bT rfl hne ?_
            refine v_go rfl ?_
            refine v_ca rfl ?_
            refine c_hasCell hk0 k3 hn60 (fun _ => ?_) (fun z => absurd hy z)
            refine v_go rfl ?_
            refine v_bT rfl (by decide) ?_
            refine v_go rfl ?_
            refine v_ca rfl ?_
            refine c_cut hk0 k2 hla ?_
            refine v_sd rfl hin60 ?_
            rw [hci]
            refine v_go rfl ?_
            exact v_rt rfl trivial h
        · have hsk : shM k D (sh k) := hI.2.2.2.1 k hk
          have hsk2 := hsk
          rw [hs] at hsk2
          obtain ⟨k1, k2, k3⟩ := hsk2
          have e60 : (60 : Int32) * nI k + nI i = nI (60 * k + i) := by rw [show (60 : Int32) = nI 60 from rfl, pk_mul, nI_add]
          have hin2 : vp_in (nI (60 * k + i)) 240 := vp_in_nI (by omega) (by omega)
          have hc2 : (nI (60 * k + i)).toNatClampNeg = 60 * k + i := nI_clamp (by omega)
          have fin : m_V L 7 Q t_X5_put 1 (73, [some (.ref 34), some (.int (nI k)), some (.int (nI i)), some (.int w)], [.int (cutI la w), .int (nI (60 * k + i)), .ref 58], D) := by
            refine v_go rfl ?_
            refine v_sd rfl hin2 ?_
            rw [hc2]
            refine v_go rfl ?_
            refine v_ca rfl ?_
            refine c_refused ?_
            refine v_rt rfl trivial (h _ (((frM.refl _).up (by omega)).up (by omega)) (InvM_fl (fl := fl) 0 (InvM_sh _ hz hI hk (fun a ha => m_up_ne (by omega)) (fun _ _ => rfl) (fun j hj hjk => ⟨rfl, rfl, fun b hb => m_up_n (by omega)⟩) ⟨k1, k2, fun j hj => ?_⟩)))
            rw [m_up_at]
            by_cases e : j = i
            · rw [e, pk_us, pk_us]
            · rw [pk_un (by omega), pk_un e]
              exact k3 j hj
          refine v_in (tb' := t_X5_put) (rk' := 1) rfl rfl rfl ?_
          refine v_go rfl ?_
          refine v_ca rfl ?_
          refine c_noSheet (fun _ => ?_) (fun z => absurd hx z)
          refine v_go rfl ?_
          refine v_bT rfl (by decide) ?_
          refine v_go rfl ?_
          refine v_ca rfl ?_
          refine c_noCell hk hsk h60 (fun e => by rw [hs] at e; cases e) (fun a b c e _ => ?_) (fun a b c e z => by rw [hs] at e; cases e; exact absurd hy z)
          refine v_go rfl ?_
          refine v_bT rfl (by decide) ?_
          refine v_go rfl ?_
          rw [e60]
          refine v_sd rfl hx ?_
          rw [hck, k2]
          match la, hla, fin, k2 with
          | 0, _, fin, _ =>
            refine v_bF rfl (fun z => z rfl) ?_
            exact v_run 3 rfl fin
          | 1, _, fin, k2 =>
            refine v_bT rfl (by decide) ?_
            refine v_go rfl ?_
            refine v_sd rfl hx ?_
            rw [hck, k2]
            refine v_go rfl ?_
            refine v_bF rfl (fun z => z rfl) ?_
            exact v_run 3 rfl fin
          | 2, _, fin, k2 =>
            refine v_bT rfl (by decide) ?_
            refine v_go rfl ?_
            refine v_sd rfl hx ?_
            rw [hck, k2]
            refine v_go rfl ?_
            refine v_bT rfl (by decide) ?_
            exact v_run 1 rfl fin
      · refine ⟨-13, (S, rd, sh, tr, 3), hz, fun D Q hI h => ?_, fun D Q hI h => ?_⟩
        · have hsk : shC k (m_up D 0 9 0) (sh k) := (InvC_fl 0 hI).2.2.2.1 k hk
          rw [hs] at hsk
          obtain ⟨k1, k2, k3, k4⟩ := hsk
          have h := h (m_up D 0 9 3) ((frC.refl _).up (by omega)) (InvC_fl _ hI)
          have hne : ¬ m_up D 0 9 0 (24 + 2 * k) 1 = 0 := by rw [k1]; decide
          have hk0 := hk
          refine v_in (tb' := t_X4_put) (rk' := 1) rfl rfl rfl ?_
          refine v_go rfl ?_
          refine v_ca rfl ?_
          refine c_isSheet (fun _ => ?_) (fun z => absurd hx z)
          refine v_go rfl ?_
          refine v_bT rfl (by decide) ?_
          refine v_go rfl ?_
          refine v_al rfl hx (fun q hq => ?_)
          have hq := al_q hk hq
          subst hq
          rcases hk4 with rfl | rfl | rfl | rfl
          all_goals
            refine v_go rfl ?_
            refine v_bT rfl hne ?_
            refine v_go rfl ?_
            refine v_ca rfl ?_
            refine c_hasCell hk0 k3 hn60 (fun z => absurd z hy) (fun _ => ?_)
            refine v_go rfl ?_
            refine v_bF rfl (by decide) ?_
            refine v_go rfl ?_
            refine v_ca rfl ?_
            refine c_faulted ?_
            rw [m_up_ii]
            exact v_rt rfl trivial h
        · have hsk : shM k D (sh k) := hI.2.2.2.1 k hk
          refine v_in (tb' := t_X5_put) (rk' := 1) rfl rfl rfl ?_
          refine v_go rfl ?_
          refine v_ca rfl ?_
          refine c_noSheet (fun _ => ?_) (fun z => absurd hx z)
          refine v_go rfl ?_
          refine v_bT rfl (by decide) ?_
          refine v_go rfl ?_
          refine v_ca rfl ?_
          refine c_noCell hk hsk h60 (fun e => by rw [hs] at e; cases e) (fun a b c e z => by rw [hs] at e; cases e; exact absurd z hy) (fun a b c e _ => ?_)
          refine v_go rfl ?_
          refine v_bF rfl (by decide) ?_
          refine v_go rfl ?_
          refine v_ca rfl ?_
          refine c_noCell hk hsk h60 (fun e => by rw [hs] at e; cases e) (fun a b c e z => by rw [hs] at e; cases e; exact absurd z hy) (fun a b c e _ => ?_)
          refine v_go rfl ?_
          refine v_ca rfl ?_
          refine c_failed ?_
          exact v_rt rfl trivial (h _ ((frM.refl _).up (by omega)) (InvM_fl _ hI))
  · refine ⟨-1, (S, rd, sh, tr, 0), hz, fun D Q hI h => ?_, fun D Q hI h => ?_⟩
    · refine v_in (tb' := t_X4_put) (rk' := 1) rfl rfl rfl ?_
      refine v_go rfl ?_
      refine v_ca rfl ?_
      refine c_isSheet (fun z => absurd z hx) (fun _ => ?_)
      refine v_go rfl ?_
      refine v_bF rfl (by decide) ?_
      exact v_go rfl (v_rt rfl trivial (h _ ((frC.refl _).up (by omega)) (InvC_fl _ hI)))
    · refine v_in (tb' := t_X5_put) (rk' := 1) rfl rfl rfl ?_
      refine v_go rfl ?_
      refine v_ca rfl ?_
      refine c_noSheet (fun z => absurd z hx) (fun _ => ?_)
      refine v_go rfl ?_
      refine v_bF rfl (by decide) ?_
      refine v_go rfl ?_
      refine v_ca rfl ?_
      refine c_refused ?_
      exact v_rt rfl trivial (h _ ((frM.refl _).up (by omega)) (InvM_fl _ hI))
