/-! ===== sheets ===== -/
def setH (sh : Nat → Option (Nat × Nat × (Nat → Int32))) (k : Nat) (s : Option (Nat × Nat × (Nat → Int32))) : Nat → Option (Nat × Nat × (Nat → Int32)) := fun j => if j = k then s else sh j
theorem al_q {k q : Nat} (hk : k < 4) (h : [24, 26, 28, 30][(nI k).toNatClampNeg]? = some q) : q = 24 + 2 * k := by
  rw [nI_clamp (by omega)] at h
  match k, hk, h with
  | 0, _, h => cases h; rfl
  | 1, _, h => cases h; rfl
  | 2, _, h => cases h; rfl
  | 3, _, h => cases h; rfl
theorem InvC_sh {S : SH} {rd : Nat × (Nat → Nat) × (Nat → Nat)} {sh : Nat → Option (Nat × Nat × (Nat → Int32))} {tr fl : Int32} {D D' : m_D} {k : Nat} (s : Option (Nat × Nat × (Nat → Int32))) (h : InvC (S, rd, sh, tr, fl) D) (hk : k < 4) (hf : ∀ a, a < 8 ∨ (24 ≤ a ∧ a < 34) → a ≠ 24 + 2 * k → a ≠ 25 + 2 * k → D' a = D a) (hs : shC k D' s) : InvC (S, rd, setH sh k s, tr, fl) D' := by
  obtain ⟨h1, h2, h3, h4, h5, h6⟩ := h
  have e0 := hf 0 (by omega) (by omega) (by omega)
  refine ⟨relC_c (fun i hi => hf _ (by omega) (by omega) (by omega)) h1, by rw [e0]; exact h2, fun i hi => by rw [hf 32 (by omega) (by omega) (by omega), hf 33 (by omega) (by omega) (by omega)]; exact h3 i hi, fun j hj => ?_, by rw [e0]; exact h5, by rw [e0]; exact h6⟩
  show shC j D' (if j = k then s else sh j)
  by_cases e : j = k
  · rw [if_pos e, e]
    exact hs
  · rw [if_neg e]
    exact shC_keep (hf _ (by omega) (by omega) (by omega)) (hf _ (by omega) (by omega) (by omega)) (h4 j hj)
theorem InvM_sh {S : SH} {rd : Nat × (Nat → Nat) × (Nat → Nat)} {sh : Nat → Option (Nat × Nat × (Nat → Int32))} {tr fl : Int32} {D D' : m_D} {k : Nat} (s : Option (Nat × Nat × (Nat → Int32))) (hz : okZ (S, rd, sh, tr, fl)) (h : InvM (S, rd, sh, tr, fl) D) (hk : k < 4) (hf : ∀ a, (35 ≤ a ∧ a ≤ 40) ∨ a = 54 ∨ a = 55 → D' a = D a) (hg : ∀ j, j ∈ [0, 1, 2, 26, 33] → D' 34 j = D 34 j) (ho : ∀ j, j < 4 → j ≠ k → D' 56 j = D 56 j ∧ D' 57 j = D 57 j ∧ ∀ i, i < 60 → D' 58 (60 * j + i) = D 58 (60 * j + i)) (hs : shM k D' s) : InvM (S, rd, setH sh k s, tr, fl) D' := by
  obtain ⟨h1, h2, h3, h4, h5, h6⟩ := h
  refine ⟨relM_c (fun a b c => hf a (by omega)) (hg 1 (by simp)) (hg 2 (by simp)) h1, by rw [hg 26 (by simp)]; exact h2, fun i hi => by rw [hf 54 (by omega), hf 55 (by omega)]; exact h3 i hi, fun j hj => ?_, by rw [hg 33 (by simp)]; exact h5, by rw [hg 0 (by simp)]; exact h6⟩
  show shM j D' (if j = k then s else sh j)
  by_cases e : j = k
  · rw [if_pos e, e]
    exact hs
  · rw [if_neg e]
    obtain ⟨g1, g2, g3⟩ := ho j hj e
    have h4 : shM j D (sh j) := h4 j hj
    have h60 : ∀ la n f, sh j = some (la, n, f) → n ≤ 60 := fun la n f e => (hz.2.2.2.2 j hj la n f e).2
    match he : sh j, h4 with
    | none, h4 => exact g1.trans h4
    | some (la, n, f), h4 =>
      have hn := h60 la n f he
      exact ⟨g1.trans h4.1, g2.trans h4.2.1, fun i hi => (g3 i (by omega)).trans (h4.2.2 i hi)⟩
theorem okZ_sh {S : SH} {rd : Nat × (Nat → Nat) × (Nat → Nat)} {sh : Nat → Option (Nat × Nat × (Nat → Int32))} {tr fl fl' : Int32} {k : Nat} {s : Option (Nat × Nat × (Nat → Int32))} (hz : okZ (S, rd, sh, tr, fl)) (hs : ∀ la n f, s = some (la, n, f) → la < 3 ∧ n ≤ 60) : okZ (S, rd, setH sh k s, tr, fl') := by
  refine ⟨hz.1, hz.2.1, hz.2.2.1, hz.2.2.2.1, fun j hj la n f e => ?_⟩
  have e : (if j = k then s else sh j) = some (la, n, f) := e
  by_cases e1 : j = k
  · rw [if_pos e1] at e
    exact hs la n f e
  · rw [if_neg e1] at e
    exact hz.2.2.2.2 j hj la n f e
theorem okZ_fl {S : SH} {rd : Nat × (Nat → Nat) × (Nat → Nat)} {sh : Nat → Option (Nat × Nat × (Nat → Int32))} {tr fl fl' : Int32} (hz : okZ (S, rd, sh, tr, fl)) : okZ (S, rd, sh, tr, fl') := hz
theorem c_renew {L d k n : Nat} {la : Int32} {D : m_D} {Q : m_K} (hk : k < 4) (h : ∀ D', (∀ a, a ≠ 24 + 2 * k → a ≠ 25 + 2 * k → D' a = D a) → D' (24 + 2 * k) 1 = 1 → D' (24 + 2 * k) 2 = la → D' (24 + 2 * k) 3 = nI n → (∀ i, i < 60 → D' (25 + 2 * k) i = 0) → Q none D') : m_call L (d + 2) 6 [.ref (24 + 2 * k), .int la, .int (nI n)] D Q := by
  have hk4 : k = 0 ∨ k = 1 ∨ k = 2 ∨ k = 3 := by omega
  rcases hk4 with rfl | rfl | rfl | rfl
  all_goals
    refine v_in (tb' := t_X1_renew) (rk' := 0) rfl rfl rfl ?_
    refine v_go rfl ?_
    refine v_ca rfl ?_
    refine c_fill (n := 60) (by simp) (fun D1 hf1 h0 => ?_)
    refine v_go rfl ?_
    refine v_sd rfl (Or.inr rfl) ?_
    refine v_go rfl ?_
    refine v_rt rfl trivial (h _ (fun a ha hb => ?_) rfl rfl rfl h0)
    rw [m_up_ne ha, m_up_ne ha, m_up_ne ha]
    exact hf1 a (by simpa using hb)
theorem c_noSheet {L d : Nat} {x : Int32} {D : m_D} {Q : m_K} (h0 : vp_in x 4 → Q (some (.int 0)) D) (h1 : ¬ vp_in x 4 → Q (some (.int 1)) D) : m_call L (d + 2) 151 [.int x] D Q := by
  have hg : (3 : Int64).toInt = ((4 : Nat) : Int) - 1 := by decide
  refine v_in (tb' := t_X5_noSheet) (rk' := 2) rfl rfl rfl ?_
  refine v_go rfl ?_
  refine v_ca rfl ?_
  refine c_in (fun a b => ?_) (fun a => ?_)
  · refine v_go rfl ?_
    refine v_bT rfl (by decide) ?_
    exact v_go rfl (v_rt rfl (Or.inl rfl) (h0 ((in_iff hg).mp ⟨a, b⟩)))
  · refine v_go rfl ?_
    refine v_bF rfl (by decide) ?_
    exact v_go rfl (v_rt rfl (Or.inr rfl) (h1 (fun z => a ((in_iff hg).mpr z))))
theorem s_sheet (x y w : Int32) : StepI 65 152 [.int x, .int y, .int w] := by
  intro L Z hz
  obtain ⟨S, rd, sh, tr, fl⟩ := Z
  have hg : (2 : Int64).toInt = ((3 : Nat) : Int) - 1 := by decide
  by_cases hx : vp_in x 4
  · by_cases hy : vp_in y 3 ∧ w ≤ 60
    · obtain ⟨hy, hw⟩ := hy
      by_cases hw0 : w < 0
      · refine ⟨-14, (S, rd, sh, tr, 4), hz, fun D Q hI h => ?_, fun D Q hI h => ?_⟩
        · refine v_in (tb' := t_X4_sheet) (rk' := 1) rfl rfl rfl ?_
          refine v_go rfl ?_
          refine v_ca rfl ?_
          refine c_isSheet (fun _ => ?_) (fun z => absurd hx z)
          refine v_go rfl ?_
          refine v_bT rfl (by decide) ?_
          refine v_go rfl ?_
          refine v_ca rfl ?_
          refine c_isLane (fun _ => ?_) (fun z => absurd hy z)
          refine v_go rfl ?_
          refine v_bF rfl (by decide) ?_
          refine v_go rfl ?_
          refine v_bT rfl hw ?_
          refine v_go rfl ?_
          refine v_bF rfl (Int32.not_le.mpr hw0) ?_
          refine v_go rfl ?_
          refine v_ca rfl ?_
          refine c_faulted ?_
          rw [m_up_ii]
          exact v_rt rfl trivial (h _ ((frC.refl _).up (by omega)) (InvC_fl _ hI))
        · refine v_in (tb' := t_X5_sheet) (rk' := 1) rfl rfl rfl ?_
          refine v_go rfl ?_
          refine v_ca rfl ?_
          refine c_noSheet (fun _ => ?_) (fun z => absurd hx z)
          refine v_go rfl ?_
          refine v_bT rfl (by decide) ?_
          refine v_go rfl ?_
          refine v_ca rfl ?_
          refine c_in (fun _ _ => ?_) (fun z => absurd ((in_iff hg).mpr hy) z)
          refine v_go rfl ?_
          refine v_bF rfl (by decide) ?_
          refine v_go rfl ?_
          refine v_bT rfl hw ?_
          refine v_go rfl ?_
          refine v_bF rfl (Int32.not_le.mpr hw0) ?_
          refine v_go rfl ?_
          refine v_ca rfl ?_
          refine c_failed ?_
          exact v_rt rfl trivial (h _ ((frM.refl _).up (by omega)) (InvM_fl _ hI))
      · have hw61 : vp_in w 61 := (vw_iff (n := 60) (by omega)).mpr ⟨hw0, Int32.not_lt.mpr hw⟩
        have hw00 : 0 ≤ w := Int32.not_lt.mp hw0
        obtain ⟨k, hk, rfl⟩ := vp_in_of hx (by omega)
        obtain ⟨la, hla, rfl⟩ := vp_in_of hy (by omega)
        obtain ⟨n, hn, rfl⟩ := vp_in_of hw61 (by omega)
        refine ⟨1, (S, rd, setH sh k (some (la, n, fun _ => 0)), tr, 0), okZ_sh hz (fun a b c e => by cases e; omega), fun D Q hI h => ?_, fun D Q hI h => ?_⟩
        · refine v_in (tb' := t_X4_sheet) (rk' := 1) rfl rfl rfl ?_
          refine v_go rfl ?_
          refine v_ca rfl ?_
          refine c_isSheet (fun _ => ?_) (fun z => absurd hx z)
          refine v_go rfl ?_
          refine v_bT rfl (by decide) ?_
          refine v_go rfl ?_
          refine v_ca rfl ?_
          refine c_isLane (fun _ => ?_) (fun z => absurd hy z)
          refine v_go rfl ?_
          refine v_bF rfl (by decide) ?_
          refine v_go rfl ?_
          refine v_bT rfl hw ?_
          refine v_go rfl ?_
          refine v_bT rfl hw00 ?_
          refine v_go rfl ?_
          refine v_al rfl hx (fun q hq => ?_)
          have hq := al_q hk hq
          subst hq
          refine v_go rfl ?_
          have hk4 : k = 0 ∨ k = 1 ∨ k = 2 ∨ k = 3 := by omega
          have hren : m_call L 7 6 [.ref (24 + 2 * k), .int (nI la), .int (nI n)] (m_up D 0 9 0) (fun r D' => m_V L 7 Q t_X4_sheet 1 (m_beh 51 [some (.ref 0), some (.int (nI k)), some (.int (nI la)), some (.int (nI n))] [] r D')) := by
            refine c_renew hk (fun D2 hf2 q1 q2 q3 q4 => ?_)
            refine v_go rfl ?_
            refine v_rt rfl trivial (h D2 (fun a ha => ?_) ?_)
            · rw [hf2 a (by omega) (by omega), m_up_ne (by omega)]
            · exact InvC_sh (fl := 0) (D := m_up D 0 9 0) _ (InvC_fl 0 hI) hk (fun a _ hb hc => hf2 a hb hc) ⟨q1, q2, q3, fun i hi => q4 i (by omega)⟩
          rcases hk4 with rfl | rfl | rfl | rfl
          all_goals
            refine v_ca rfl ?_
            exact hren
        · have hck : (nI k).toNatClampNeg = k := nI_clamp (by omega)
          have e60 : (60 : Int32) * nI k = nI (60 * k) := by rw [show (60 : Int32) = nI 60 from rfl, pk_mul]
          refine v_in (tb' := t_X5_sheet) (rk' := 1) rfl rfl rfl ?_
          refine v_go rfl ?_
          refine v_ca rfl ?_
          refine c_noSheet (fun _ => ?_) (fun z => absurd hx z)
          refine v_go rfl ?_
          refine v_bT rfl (by decide) ?_
          refine v_go rfl ?_
          refine v_ca rfl ?_
          refine c_in (fun _ _ => ?_) (fun z => absurd ((in_iff hg).mpr hy) z)
          refine v_go rfl ?_
          refine v_bF rfl (by decide) ?_
          refine v_go rfl ?_
          refine v_bT rfl hw ?_
          refine v_go rfl ?_
          refine v_bT rfl hw00 ?_
          refine v_go rfl ?_
          refine v_sd rfl hx ?_
          rw [hck]
          refine v_go rfl ?_
          refine v_sd rfl hx ?_
          rw [hck]
          have key : ∀ (m i : Nat) (D1 : m_D), i + m = n → m_fM [58] [] (m_up (m_up D 56 k (nI n)) 57 k (nI la)) D1 → (∀ j, j < i → D1 58 (60 * k + j) = 0) → (∀ j, (j < 60 * k ∨ 60 * k + 60 ≤ j) → D1 58 j = D 58 j) → m_V L 7 Q t_X5_sheet 1 (65, [some (.ref 34), some (.int (nI k)), some (.int (nI la)), some (.int (nI n)), some (.int (nI i))], [], D1) := by
            intro m
            induction m with
            | zero =>
              intro i D1 hi hf h0 ho
              have hi : i = n := by omega
              subst hi
              refine v_go rfl ?_
              refine v_bT rfl (Int32.le_refl _) ?_
              refine v_go rfl ?_
              refine v_ca rfl ?_
              refine c_refused ?_
              have e56 : D1 56 = m_up (m_up D 56 k (nI i)) 57 k (nI la) 56 := hf.1 56 (by simp) (by omega)
              have e57 : D1 57 = m_up (m_up D 56 k (nI i)) 57 k (nI la) 57 := hf.1 57 (by simp) (by omega)
              have ecell : ∀ a, a ≠ 58 → a ≠ 34 → a ≠ 56 → a ≠ 57 → D1 a = D a := fun a h1 h2 h3 h4 => by
                rw [hf.1 a (by simpa using h1) h2, m_up_ne h4, m_up_ne h3]
              have efld : ∀ j, D1 34 j = D 34 j := fun j => hf.2 j (by simp)
              refine v_rt rfl trivial (h _ (fun a ha => ?_) ?_)
              · rw [m_up_ne (by omega)]
                exact ecell a (by omega) (by omega) (by omega) (by omega)
              · refine InvM_fl (fl := fl) 0 (InvM_sh _ hz hI hk (fun a ha => ecell a (by omega) (by omega) (by omega) (by omega)) (fun j _ => efld j) (fun j hj hjk => ⟨?_, ?_, fun b hb => ho _ (by omega)⟩) ⟨?_, ?_, fun b hb => h0 b hb⟩)
                · rw [e56]
                  show upd (D 56) k _ j = _
                  rw [pk_un hjk]
                · rw [e57]
                  show upd (D 57) k _ j = _
                  rw [pk_un hjk]
                · rw [e56]
                  exact pk_us
                · rw [e57]
                  exact pk_us
            | succ m ih =>
              intro i D1 hi hf h0 ho
              have hin2 : vp_in (nI (60 * k + i)) 240 := vp_in_nI (by omega) (by omega)
              have hc2 : (nI (60 * k + i)).toNatClampNeg = 60 * k + i := nI_clamp (by omega)
              have ih := ih (i + 1) (m_up D1 58 (60 * k + i) 0) (by omega) (hf.up (by simp) (by decide)) (fun j hj => by
                by_cases e : j = i
                · rw [e, m_up_s]
                · rw [m_up_n (by omega)]
                  exact h0 j (by omega)) (fun j hj => by
                rw [m_up_n (by omega)]
                exact ho j hj)
              rw [← nI_1] at ih
              refine v_go rfl ?_
              refine v_bF rfl (nI_ge (by omega) (by omega)) ?_
              refine v_go rfl ?_
              rw [e60, nI_add]
              refine v_sd rfl hin2 ?_
              rw [hc2]
              exact v_run 2 rfl ih
          exact v_run 2 rfl (key n 0 _ (by omega) (m_fM.refl _ _ _) (fun j hj => absurd hj (by omega)) (fun j _ => rfl))
    · refine ⟨-2, (S, rd, sh, tr, 0), hz, fun D Q hI h => ?_, fun D Q hI h => ?_⟩
      · refine v_in (tb' := t_X4_sheet) (rk' := 1) rfl rfl rfl ?_
        refine v_go rfl ?_
        refine v_ca rfl ?_
        refine c_isSheet (fun _ => ?_) (fun z => absurd hx z)
        refine v_go rfl ?_
        refine v_bT rfl (by decide) ?_
        refine v_go rfl ?_
        refine v_ca rfl ?_
        refine c_isLane (fun hy1 => ?_) (fun hy1 => ?_)
        · refine v_go rfl ?_
          refine v_bF rfl (by decide) ?_
          refine v_go rfl ?_
          refine v_bF rfl (fun z => hy ⟨hy1, z⟩) ?_
          exact v_go rfl (v_rt rfl trivial (h _ ((frC.refl _).up (by omega)) (InvC_fl _ hI)))
        · refine v_go rfl ?_
          refine v_bT rfl (by decide) ?_
          exact v_go rfl (v_rt rfl trivial (h _ ((frC.refl _).up (by omega)) (InvC_fl _ hI)))
      · refine v_in (tb' := t_X5_sheet) (rk' := 1) rfl rfl rfl ?_
        refine v_go rfl ?_
        refine v_ca rfl ?_
        refine c_noSheet (fun _ => ?_) (fun z => absurd hx z)
        refine v_go rfl ?_
        refine v_bT rfl (by decide) ?_
        refine v_go rfl ?_
        refine v_ca rfl ?_
        refine c_in (fun a b => ?_) (fun _ => ?_)
        · refine v_go rfl ?_
          refine v_bF rfl (by decide) ?_
          refine v_go rfl ?_
          refine v_bF rfl (fun z => hy ⟨(in_iff hg).mp ⟨a, b⟩, z⟩) ?_
          refine v_go rfl ?_
          refine v_ca rfl ?_
          refine c_refused ?_
          exact v_rt rfl trivial (h _ ((frM.refl _).up (by omega)) (InvM_fl _ hI))
        · refine v_go rfl ?_
          refine v_bT rfl (by decide) ?_
          refine v_go rfl ?_
          refine v_ca rfl ?_
          refine c_refused ?_
          exact v_rt rfl trivial (h _ ((frM.refl _).up (by omega)) (InvM_fl _ hI))
  · refine ⟨-1, (S, rd, sh, tr, 0), hz, fun D Q hI h => ?_, fun D Q hI h => ?_⟩
    · refine v_in (tb' := t_X4_sheet) (rk' := 1) rfl rfl rfl ?_
      refine v_go rfl ?_
      refine v_ca rfl ?_
      refine c_isSheet (fun z => absurd z hx) (fun _ => ?_)
      refine v_go rfl ?_
      refine v_bF rfl (by decide) ?_
      exact v_go rfl (v_rt rfl trivial (h _ ((frC.refl _).up (by omega)) (InvC_fl _ hI)))
    · refine v_in (tb' := t_X5_sheet) (rk' := 1) rfl rfl rfl ?_
      refine v_go rfl ?_
      refine v_ca rfl ?_
      refine c_noSheet (fun z => absurd z hx) (fun _ => ?_)
      refine v_go rfl ?_
      refine v_bF rfl (by decide) ?_
      refine v_go rfl ?_
      refine v_ca rfl ?_
      refine c_refused ?_
      exact v_rt rfl trivial (h _ ((frM.refl _).up (by omega)) (InvM_fl _ hI))
theorem s_lose (x : Int32) : StepI 66 153 [.int x] := by
  intro L Z hz
  obtain ⟨S, rd, sh, tr, fl⟩ := Z
  by_cases hx : vp_in x 4
  · obtain ⟨k, hk, rfl⟩ := vp_in_of hx (by omega)
    have hck : (nI k).toNatClampNeg = k := nI_clamp (by omega)
    have hk4 : k = 0 ∨ k = 1 ∨ k = 2 ∨ k = 3 := by omega
    refine ⟨if sh k = none then 0 else 1, (S, rd, setH sh k none, tr, fl), okZ_sh hz (fun a b c e => by cases e), fun D Q hI h => ?_, fun D Q hI h => ?_⟩
    · have hsk : shC k D (sh k) := hI.2.2.2.1 k hk
      have hfin : frC D (m_up D (24 + 2 * k) 1 0) := (frC.refl _).up (by omega)
      have hI' : InvC (S, rd, setH sh k none, tr, fl) (m_up D (24 + 2 * k) 1 0) := InvC_sh _ hI hk (fun a _ hb _ => m_up_ne hb) m_up_s
      have h := h _ hfin hI'
      refine v_in (tb' := t_X4_lose) (rk' := 1) rfl rfl rfl ?_
      refine v_go rfl ?_
      refine v_ca rfl ?_
      refine c_isSheet (fun _ => ?_) (fun z => absurd hx z)
      refine v_go rfl ?_
      refine v_bT rfl (by decide) ?_
      refine v_go rfl ?_
      refine v_al rfl hx (fun q hq => ?_)
      have hq := al_q hk hq
      subst hq
      cases hs : sh k with
      | none =>
        rw [hs] at hsk
        rw [if_pos hs] at h
        rcases hk4 with rfl | rfl | rfl | rfl
        all_goals
          refine v_go rfl ?_
          refine v_bT rfl hsk ?_
          refine v_go rfl ?_
          refine v_al rfl hx (fun q hq => ?_)
          have hq := al_q hk hq
          subst hq
          refine v_go rfl ?_
          refine v_sd rfl (Or.inl rfl) ?_
          refine v_go rfl ?_
          exact v_rt rfl trivial h
      | some s =>
        obtain ⟨la, n, f⟩ := s
        rw [hs] at hsk
        rw [if_neg (by rw [hs]; exact fun z => by cases z)] at h
        have hne : ¬ D (24 + 2 * k) 1 = 0 := by rw [hsk.1]; decide
        rcases hk4 with rfl | rfl | rfl | rfl
        all_goals
          refine v_go rfl ?_
          refine v_bF rfl hne ?_
          refine v_go rfl ?_
          refine v_al rfl hx (fun q hq => ?_)
          have hq := al_q hk hq
          subst hq
          refine v_go rfl ?_
          refine v_sd rfl (Or.inl rfl) ?_
          refine v_go rfl ?_
          exact v_rt rfl trivial h
    · have hsk : shM k D (sh k) := hI.2.2.2.1 k hk
      have hI' : InvM (S, rd, setH sh k none, tr, fl) (m_up D 56 k (-1)) := InvM_sh _ hz hI hk (fun a ha => m_up_ne (by omega)) (fun _ _ => rfl) (fun j hj hjk => ⟨m_up_n hjk, rfl, fun _ _ => rfl⟩) m_up_s
      have h := h _ ((frM.refl _).up (by omega)) hI'
      refine v_in (tb' := t_X5_lose) (rk' := 1) rfl rfl rfl ?_
      refine v_go rfl ?_
      refine v_ca rfl ?_
      refine c_noSheet (fun _ => ?_) (fun z => absurd hx z)
      refine v_go rfl ?_
      refine v_bT rfl (by decide) ?_
      refine v_go rfl ?_
      refine v_sd rfl hx ?_
      rw [hck]
      cases hs : sh k with
      | none =>
        rw [hs] at hsk
        rw [if_pos hs] at h
        have hsk : D 56 k = -1 := hsk
        rw [hsk]
        refine v_bF rfl (by decide) ?_
        refine v_go rfl ?_
        refine v_sd rfl hx ?_
        rw [hck]
        refine v_go rfl ?_
        exact v_rt rfl trivial h
      | some s =>
        obtain ⟨la, n, f⟩ := s
        rw [hs] at hsk
        rw [if_neg (by rw [hs]; exact fun z => by cases z)] at h
        have hn60 : n ≤ 60 := (hz.2.2.2.2 k hk la n f hs).2
        rw [hsk.1]
        refine v_bT rfl (nI_pos' (by omega)) ?_
        refine v_go rfl ?_
        refine v_sd rfl hx ?_
        rw [hck]
        refine v_go rfl ?_
        exact v_rt rfl trivial h
  · refine ⟨-1, (S, rd, sh, tr, fl), hz, fun D Q hI h => ?_, fun D Q hI h => ?_⟩
    · refine v_in (tb' := t_X4_lose) (rk' := 1) rfl rfl rfl ?_
      refine v_go rfl ?_
      refine v_ca rfl ?_
      refine c_isSheet (fun z => absurd z hx) (fun _ => ?_)
      refine v_go rfl ?_
      refine v_bF rfl (by decide) ?_
      exact v_go rfl (v_rt rfl trivial (h _ (frC.refl _) hI))
    · refine v_in (tb' := t_X5_lose) (rk' := 1) rfl rfl rfl ?_
      refine v_go rfl ?_
      refine v_ca rfl ?_
      refine c_noSheet (fun z => absurd z hx) (fun _ => ?_)
      refine v_go rfl ?_
      refine v_bF rfl (by decide) ?_
      exact v_go rfl (v_rt rfl trivial (h _ (frM.refl _) hI))
