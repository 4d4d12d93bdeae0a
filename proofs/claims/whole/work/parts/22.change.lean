/-! ===== print, begin, cough: a shower that changes ===== -/
def setT (S : SH) (i j v : Nat) : SH := (S.1, S.2.1, fun a b => if a = i ∧ b = j then v else S.2.2.1 a b, S.2.2.2)
theorem setT_s {S : SH} {i j v : Nat} : (setT S i j v).2.2.1 i j = v := if_pos ⟨rfl, rfl⟩
theorem setT_n {S : SH} {i j v a b : Nat} (h : ¬ (a = i ∧ b = j)) : (setT S i j v).2.2.1 a b = S.2.2.1 a b := if_neg h
theorem setT_row {D : m_D} {S : SH} {i j v c b x : Nat} (hc : D c b = nI (S.2.2.1 x b)) : (x = i → upd (D c) j (nI v) b = nI ((setT S i j v).2.2.1 x b)) ∧ (x ≠ i → D c b = nI ((setT S i j v).2.2.1 x b)) := by
  refine ⟨fun hx => ?_, fun hx => ?_⟩
  · subst hx
    by_cases e : b = j
    · subst e
      rw [pk_us, setT_s]
    · rw [pk_un e, setT_n (fun z => e z.2)]
      exact hc
  · rw [setT_n (fun z => hx z.1)]
    exact hc
theorem relC_setT {B i j v : Nat} {D : m_D} {S : SH} (hi : i < 5) (h : relC B D S) : relC B (m_up D (B + 1 + i) j (nI v)) (setT S i j v) := by
  obtain ⟨h1, h2, h3, h4, h5⟩ := h
  have eB : m_up D (B + 1 + i) j (nI v) B = D B := m_up_ne (by omega)
  have e6 : m_up D (B + 1 + i) j (nI v) (B + 6) = D (B + 6) := m_up_ne (by omega)
  have row : ∀ x b, x < 5 → D (B + 1 + x) b = nI (S.2.2.1 x b) → m_up D (B + 1 + i) j (nI v) (B + 1 + x) b = nI ((setT S i j v).2.2.1 x b) := by
    intro x b hx hc
    by_cases e : x = i
    · subst e
      rw [m_up_at]
      exact (setT_row hc).1 rfl
    · rw [m_up_ne (by omega)]
      exact (setT_row hc).2 e
  refine ⟨by rw [eB]; exact h1, by rw [eB]; exact h2, fun l hl => ⟨row 0 l (by omega) (h3 l hl).1, row 1 l (by omega) (h3 l hl).2⟩, fun c hc => ⟨row 2 c (by omega) (h4 c hc).1, row 3 c (by omega) (h4 c hc).2.1, row 4 c (by omega) (h4 c hc).2.2⟩, fun t ht => by rw [e6]; exact h5 t ht⟩
theorem relM_setT {i j v : Nat} {D : m_D} {S : SH} (hi : i < 5) (h : relM D S) : relM (m_up D (35 + i) j (nI v)) (setT S i j v) := by
  obtain ⟨h1, h2, h3, h4, h5⟩ := h
  have eB : m_up D (35 + i) j (nI v) 34 = D 34 := m_up_ne (by omega)
  have e6 : m_up D (35 + i) j (nI v) 40 = D 40 := m_up_ne (by omega)
  have row : ∀ x b, x < 5 → D (35 + x) b = nI (S.2.2.1 x b) → m_up D (35 + i) j (nI v) (35 + x) b = nI ((setT S i j v).2.2.1 x b) := by
    intro x b hx hc
    by_cases e : x = i
    · subst e
      rw [m_up_at]
      exact (setT_row hc).1 rfl
    · rw [m_up_ne (by omega)]
      exact (setT_row hc).2 e
  refine ⟨by rw [eB]; exact h1, by rw [eB]; exact h2, fun l hl => ⟨row 0 l (by omega) (h3 l hl).1, row 1 l (by omega) (h3 l hl).2⟩, fun c hc => ⟨row 2 c (by omega) (h4 c hc).1, row 3 c (by omega) (h4 c hc).2.1, row 4 c (by omega) (h4 c hc).2.2⟩, fun t ht => by rw [e6]; exact h5 t ht⟩
/-- which values a row may have -/
def okT (S : SH) (i v : Nat) : Prop := (i = 0 → v ≤ 9) ∧ (i = 1 → v < 4) ∧ (i = 2 → v ≤ 2) ∧ (i = 3 → 1 ≤ v ∧ v ≤ 3) ∧ (i = 4 → v < S.1)
theorem okS_setT {S : SH} {i j v : Nat} (h : okS S) (hv : okT S i v) : okS (setT S i j v) := by
  obtain ⟨h1, h2, h3, h4⟩ := h
  obtain ⟨v0, v1, v2, v3, v4⟩ := hv
  have row : ∀ x b, (setT S i j v).2.2.1 x b = S.2.2.1 x b ∨ (x = i ∧ (setT S i j v).2.2.1 x b = v) := by
    intro x b
    by_cases e : x = i ∧ b = j
    · exact Or.inr ⟨e.1, if_pos e⟩
    · exact Or.inl (if_neg e)
  refine ⟨h1, h2, fun l hl => ⟨?_, ?_⟩, fun c hc => ⟨?_, ?_, ?_, ?_⟩⟩
  · rcases row 0 l with e | ⟨e1, e⟩ <;> rw [e]
    · exact (h3 l hl).1
    · exact v0 e1.symm
  · rcases row 1 l with e | ⟨e1, e⟩ <;> rw [e]
    · exact (h3 l hl).2
    · exact v1 e1.symm
  · rcases row 2 c with e | ⟨e1, e⟩ <;> rw [e]
    · exact (h4 c hc).1
    · exact v2 e1.symm
  · rcases row 3 c with e | ⟨e1, e⟩ <;> rw [e]
    · exact (h4 c hc).2.1
    · exact (v3 e1.symm).1
  · rcases row 3 c with e | ⟨e1, e⟩ <;> rw [e]
    · exact (h4 c hc).2.2.1
    · exact (v3 e1.symm).2
  · rcases row 4 c with e | ⟨e1, e⟩ <;> rw [e]
    · exact (h4 c hc).2.2.2
    · exact v4 e1.symm
theorem InvC_S {S S' : SH} {rd : Nat × (Nat → Nat) × (Nat → Nat)} {sh : Nat → Option (Nat × Nat × (Nat → Int32))} {tr fl : Int32} {D D' : m_D} (h : InvC (S, rd, sh, tr, fl) D) (hr : relC 1 D' S') (hf : ∀ a, a = 0 ∨ (24 ≤ a ∧ a < 34) → D' a = D a) : InvC (S', rd, sh, tr, fl) D' := by
  obtain ⟨h1, h2, h3, h4, h5, h6⟩ := h
  have e0 := hf 0 (by omega)
  exact ⟨hr, by rw [e0]; exact h2, fun i hi => by rw [hf 32 (by omega), hf 33 (by omega)]; exact h3 i hi, fun k hk => shC_keep (hf _ (by omega)) (hf _ (by omega)) (h4 k hk), by rw [e0]; exact h5, by rw [e0]; exact h6⟩
theorem InvM_S {S S' : SH} {rd : Nat × (Nat → Nat) × (Nat → Nat)} {sh : Nat → Option (Nat × Nat × (Nat → Int32))} {tr fl : Int32} {D D' : m_D} (h : InvM (S, rd, sh, tr, fl) D) (hr : relM D' S') (hf : ∀ a, 54 ≤ a ∧ a ≤ 58 → D' a = D a) (hg : ∀ j, j ∈ [0, 26, 33] → D' 34 j = D 34 j) : InvM (S', rd, sh, tr, fl) D' := by
  obtain ⟨h1, h2, h3, h4, h5, h6⟩ := h
  exact ⟨hr, by rw [hg 26 (by simp)]; exact h2, fun i hi => by rw [hf 54 (by omega), hf 55 (by omega)]; exact h3 i hi, fun k hk => shM_keep (hf _ (by omega)) (hf _ (by omega)) (hf _ (by omega)) (h4 k hk), by rw [hg 33 (by simp)]; exact h5, by rw [hg 0 (by simp)]; exact h6⟩
theorem okZ_S {S S' : SH} {rd : Nat × (Nat → Nat) × (Nat → Nat)} {sh : Nat → Option (Nat × Nat × (Nat → Int32))} {tr fl : Int32} (h : okZ (S, rd, sh, tr, fl)) (ho : okS S') (h1 : S'.1 = S.1) (h2 : S'.2.1 = S.2.1) : okZ (S', rd, sh, tr, fl) := ⟨ho, by show S'.1 = 0 ↔ S'.2.1 = 0; rw [h1, h2]; exact h.2.1, h.2.2.1, h.2.2.2.1, h.2.2.2.2⟩
theorem s_print (x y : Int32) : StepI 33 119 [.int x, .int y] := by
  intro L Z hz
  obtain ⟨S, rd, sh, tr, fl⟩ := Z
  have hoS : okS S := hz.1
  have hn6 : S.1 ≤ 6 := hoS.1
  have hg : (9 : Int64).toInt = ((10 : Nat) : Int) - 1 := by decide
  by_cases hx : vp_in x S.1
  · obtain ⟨l, hl, rfl⟩ := vp_in_of hx (by omega)
    have hcl : (nI l).toNatClampNeg = l := nI_clamp (by omega)
    have hin : vp_in (nI l) 6 := vp_in_nI (by omega) (by omega)
    by_cases hy : vp_in y 10
    · obtain ⟨v, hv, rfl⟩ := vp_in_of hy (by omega)
      refine ⟨nI (S.2.2.1 0 l), (setT S 0 l v, rd, sh, tr, fl), okZ_S hz (okS_setT hoS (by unfold okT; omega)) rfl rfl, fun D Q hI h => ?_, fun D Q hI h => ?_⟩
      · have r2 : D 2 l = nI (S.2.2.1 0 l) := (hI.1.2.2.1 l hl).1
        refine v_in (tb' := t_X4_print) (rk' := 1) rfl rfl rfl ?_
        refine v_go rfl ?_
        refine v_ca rfl ?_
        refine c_isLine hI.1.1 hn6 (fun _ => ?_) (fun z => absurd hx z)
        refine v_go rfl ?_
        refine v_bT rfl (by decide) ?_
        refine v_go rfl ?_
        refine v_ca rfl ?_
        refine c_isWithin (n := 9) (by omega) (fun _ => ?_) (fun z => absurd hy z)
        refine v_go rfl ?_
        refine v_bT rfl (by decide) ?_
        refine v_go rfl ?_
        refine v_sd rfl hin ?_
        rw [hcl, r2]
        refine v_go rfl ?_
        refine v_sd rfl hin ?_
        rw [hcl]
        refine v_go rfl ?_
        exact v_rt rfl trivial (h _ ((frC.refl _).up (by omega)) (InvC_S hI (relC_setT (B := 1) (i := 0) (by omega) hI.1) (fun a ha => m_up_ne (by omega))))
      · have r2 : D 35 l = nI (S.2.2.1 0 l) := (hI.1.2.2.1 l hl).1
        refine v_in (tb' := t_X5_print) (rk' := 1) rfl rfl rfl ?_
        refine v_go rfl ?_
        refine v_ca rfl ?_
        refine c_noLine hI.1.1 hn6 (fun _ => ?_) (fun z => absurd hx z)
        refine v_go rfl ?_
        refine v_bT rfl (by decide) ?_
        refine v_go rfl ?_
        refine v_ca rfl ?_
        refine c_in (fun _ _ => ?_) (fun z => absurd ((in_iff hg).mpr hy) z)
        refine v_go rfl ?_
        refine v_bT rfl (by decide) ?_
        refine v_go rfl ?_
        refine v_sd rfl hin ?_
        rw [hcl, r2]
        refine v_go rfl ?_
        refine v_sd rfl hin ?_
        rw [hcl]
        refine v_go rfl ?_
        exact v_rt rfl trivial (h _ ((frM.refl _).up (by omega)) (InvM_S hI (relM_setT (i := 0) (by omega) hI.1) (fun a ha => m_up_ne (by omega)) (fun _ _ => rfl)))
    · refine ⟨-2, (S, rd, sh, tr, fl), hz, fun D Q hI h => ?_, fun D Q hI h => ?_⟩
      · refine v_in (tb' := t_X4_print) (rk' := 1) rfl rfl rfl ?_
        refine v_go rfl ?_
        refine v_ca rfl ?_
        refine c_isLine hI.1.1 hn6 (fun _ => ?_) (fun z => absurd hx z)
        refine v_go rfl ?_
        refine v_bT rfl (by decide) ?_
        refine v_go rfl ?_
        refine v_ca rfl ?_
        refine c_isWithin (n := 9) (by omega) (fun z => absurd z hy) (fun _ => ?_)
        refine v_go rfl ?_
        refine v_bF rfl (by decide) ?_
        exact v_go rfl (v_rt rfl trivial (h _ (frC.refl _) hI))
      · refine v_in (tb' := t_X5_print) (rk' := 1) rfl rfl rfl ?_
        refine v_go rfl ?_
        refine v_ca rfl ?_
        refine c_noLine hI.1.1 hn6 (fun _ => ?_) (fun z => absurd hx z)
        refine v_go rfl ?_
        refine v_bT rfl (by decide) ?_
        refine v_go rfl ?_
        refine v_ca rfl ?_
        refine c_in (fun a b => absurd ((in_iff hg).mp ⟨a, b⟩) hy) (fun _ => ?_)
        refine v_go rfl ?_
        refine v_bF rfl (by decide) ?_
        exact v_go rfl (v_rt rfl trivial (h _ (frM.refl _) hI))
  · refine ⟨-1, (S, rd, sh, tr, fl), hz, fun D Q hI h => ?_, fun D Q hI h => ?_⟩
    · refine v_in (tb' := t_X4_print) (rk' := 1) rfl rfl rfl ?_
      refine v_go rfl ?_
      refine v_ca rfl ?_
      refine c_isLine hI.1.1 hn6 (fun z => absurd z hx) (fun _ => ?_)
      refine v_go rfl ?_
      refine v_bF rfl (by decide) ?_
      exact v_go rfl (v_rt rfl trivial (h _ (frC.refl _) hI))
    · refine v_in (tb' := t_X5_print) (rk' := 1) rfl rfl rfl ?_
      refine v_go rfl ?_
      refine v_ca rfl ?_
      refine c_noLine hI.1.1 hn6 (fun z => absurd z hx) (fun _ => ?_)
      refine v_go rfl ?_
      refine v_bF rfl (by decide) ?_
      exact v_go rfl (v_rt rfl trivial (h _ (frM.refl _) hI))
theorem s_begin (x y : Int32) : StepI 34 120 [.int x, .int y] := by
  intro L Z hz
  obtain ⟨S, rd, sh, tr, fl⟩ := Z
  have hoS : okS S := hz.1
  have hn6 : S.1 ≤ 6 := hoS.1
  have hk3 : S.2.1 ≤ 3 := hoS.2.1
  have hk6 : S.2.1 ≤ 6 := by omega
  by_cases hx : vp_in x S.2.1
  · obtain ⟨c, hc, rfl⟩ := vp_in_of hx (by omega)
    have hcl : (nI c).toNatClampNeg = c := nI_clamp (by omega)
    have hin : vp_in (nI c) 3 := vp_in_nI (by omega) (by omega)
    by_cases hy : vp_in y S.1
    · obtain ⟨v, hv, rfl⟩ := vp_in_of hy (by omega)
      refine ⟨nI (S.2.2.1 4 c), (setT S 4 c v, rd, sh, tr, fl), okZ_S hz (okS_setT hoS (by unfold okT; omega)) rfl rfl, fun D Q hI h => ?_, fun D Q hI h => ?_⟩
      · have r2 : D 6 c = nI (S.2.2.1 4 c) := (hI.1.2.2.2.1 c hc).2.2
        refine v_in (tb' := t_X4_begin) (rk' := 1) rfl rfl rfl ?_
        refine v_go rfl ?_
        refine v_ca rfl ?_
        refine c_isCrier hI.1.2.1 hk6 (fun _ => ?_) (fun z => absurd hx z)
        refine v_go rfl ?_
        refine v_bF rfl (by decide) ?_
        refine v_go rfl ?_
        refine v_ca rfl ?_
        refine c_isLine hI.1.1 hn6 (fun _ => ?_) (fun z => absurd hy z)
        refine v_go rfl ?_
        refine v_bT rfl (by decide) ?_
        refine v_go rfl ?_
        refine v_sd rfl hin ?_
        rw [hcl, r2]
        refine v_go rfl ?_
        refine v_sd rfl hin ?_
        rw [hcl]
        refine v_go rfl ?_
        exact v_rt rfl trivial (h _ ((frC.refl _).up (by omega)) (InvC_S hI (relC_setT (B := 1) (i := 4) (by omega) hI.1) (fun a ha => m_up_ne (by omega))))
      · have r2 : D 39 c = nI (S.2.2.1 4 c) := (hI.1.2.2.2.1 c hc).2.2
        refine v_in (tb' := t_X5_begin) (rk' := 1) rfl rfl rfl ?_
        refine v_go rfl ?_
        refine v_ca rfl ?_
        refine c_noCrier hI.1.2.1 hk6 (fun _ => ?_) (fun z => absurd hx z)
        refine v_go rfl ?_
        refine v_bF rfl (by decide) ?_
        refine v_go rfl ?_
        refine v_ca rfl ?_
        refine c_noLine hI.1.1 hn6 (fun _ => ?_) (fun z => absurd hy z)
        refine v_go rfl ?_
        refine v_bT rfl (by decide) ?_
        refine v_go rfl ?_
        refine v_sd rfl hin ?_
        rw [hcl, r2]
        refine v_go rfl ?_
        refine v_sd rfl hin ?_
        rw [hcl]
        refine v_go rfl ?_
        exact v_rt rfl trivial (h _ ((frM.refl _).up (by omega)) (InvM_S hI (relM_setT (i := 4) (by omega) hI.1) (fun a ha => m_up_ne (by omega)) (fun _ _ => rfl)))
    · refine ⟨-1, (S, rd, sh, tr, fl), hz, fun D Q hI h => ?_, fun D Q hI h => ?_⟩
      · refine v_in (tb' := t_X4_begin) (rk' := 1) rfl rfl rfl ?_
        refine v_go rfl ?_
        refine v_ca rfl ?_
        refine c_isCrier hI.1.2.1 hk6 (fun _ => ?_) (fun z => absurd hx z)
        refine v_go rfl ?_
        refine v_bF rfl (by decide) ?_
        refine v_go rfl ?_
        refine v_ca rfl ?_
        refine c_isLine hI.1.1 hn6 (fun z => absurd z hy) (fun _ => ?_)
        refine v_go rfl ?_
        refine v_bF rfl (by decide) ?_
        exact v_go rfl (v_rt rfl trivial (h _ (frC.refl _) hI))
      · refine v_in (tb' := t_X5_begin) (rk' := 1) rfl rfl rfl ?_
        refine v_go rfl ?_
        refine v_ca rfl ?_
        refine c_noCrier hI.1.2.1 hk6 (fun _ => ?_) (fun z => absurd hx z)
        refine v_go rfl ?_
        refine v_bF rfl (by decide) ?_
        refine v_go rfl ?_
        refine v_ca rfl ?_
        refine c_noLine hI.1.1 hn6 (fun z => absurd z hy) (fun _ => ?_)
        refine v_go rfl ?_
        refine v_bF rfl (by decide) ?_
        exact v_go rfl (v_rt rfl trivial (h _ (frM.refl _) hI))
  · refine ⟨-1, (S, rd, sh, tr, fl), hz, fun D Q hI h => ?_, fun D Q hI h => ?_⟩
    · refine v_in (tb' := t_X4_begin) (rk' := 1) rfl rfl rfl ?_
      refine v_go rfl ?_
      refine v_ca rfl ?_
      refine c_isCrier hI.1.2.1 hk6 (fun z => absurd z hx) (fun _ => ?_)
      refine v_go rfl ?_
      refine v_bT rfl (by decide) ?_
      exact v_go rfl (v_rt rfl trivial (h _ (frC.refl _) hI))
    · refine v_in (tb' := t_X5_begin) (rk' := 1) rfl rfl rfl ?_
      refine v_go rfl ?_
      refine v_ca rfl ?_
      refine c_noCrier hI.1.2.1 hk6 (fun z => absurd z hx) (fun _ => ?_)
      refine v_go rfl ?_
      refine v_bT rfl (by decide) ?_
      exact v_go rfl (v_rt rfl trivial (h _ (frM.refl _) hI))
