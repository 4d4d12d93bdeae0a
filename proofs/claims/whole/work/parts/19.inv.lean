/-! ===== the whole state: shower, readings (how many, fields, wets), sheets (lane, length, cells), trace, fault ===== -/
abbrev ZS : Type := SH × (Nat × (Nat → Nat) × (Nat → Nat)) × (Nat → Option (Nat × Nat × (Nat → Int32))) × Int32 × Int32
def shC (k : Nat) (D : m_D) : Option (Nat × Nat × (Nat → Int32)) → Prop
  | none => D (24 + 2 * k) 1 = 0
  | some (la, n, f) => D (24 + 2 * k) 1 = 1 ∧ D (24 + 2 * k) 2 = nI la ∧ D (24 + 2 * k) 3 = nI n ∧ ∀ i, i < n → D (25 + 2 * k) i = f i
def shM (k : Nat) (D : m_D) : Option (Nat × Nat × (Nat → Int32)) → Prop
  | none => D 56 k = -1
  | some (la, n, f) => D 56 k = nI n ∧ D 57 k = nI la ∧ ∀ i, i < n → D 58 (60 * k + i) = f i
def InvC (Z : ZS) (D : m_D) : Prop := relC 1 D Z.1 ∧ D 0 7 = nI Z.2.1.1 ∧ (∀ i, i < Z.2.1.1 → D 32 i = nI (Z.2.1.2.1 i) ∧ D 33 i = nI (Z.2.1.2.2 i)) ∧ (∀ k, k < 4 → shC k D (Z.2.2.1 k)) ∧ D 0 8 = Z.2.2.2.1 ∧ D 0 9 = Z.2.2.2.2
def InvM (Z : ZS) (D : m_D) : Prop := relM D Z.1 ∧ D 34 26 = nI Z.2.1.1 ∧ (∀ i, i < Z.2.1.1 → D 54 i = nI (Z.2.1.2.1 i) ∧ D 55 i = nI (Z.2.1.2.2 i)) ∧ (∀ k, k < 4 → shM k D (Z.2.2.1 k)) ∧ D 34 33 = Z.2.2.2.1 ∧ D 34 0 = Z.2.2.2.2
def okZ (Z : ZS) : Prop := okS Z.1 ∧ (Z.1.1 = 0 ↔ Z.1.2.1 = 0) ∧ Z.2.1.1 ≤ 8 ∧ (∀ i, i < Z.2.1.1 → Z.2.1.2.1 i < 4 ∧ Z.2.1.2.2 i ≤ 120) ∧ ∀ k, k < 4 → ∀ la n f, Z.2.2.1 k = some (la, n, f) → la < 3 ∧ n ≤ 60
/-- the cells of the other side stay -/
def frC (D D' : m_D) : Prop := ∀ a, 34 ≤ a → D' a = D a
def frM (D D' : m_D) : Prop := ∀ a, a < 34 ∨ a = 60 → D' a = D a
theorem shC_keep {k : Nat} {D D' : m_D} {s : Option (Nat × Nat × (Nat → Int32))} (h1 : D' (24 + 2 * k) = D (24 + 2 * k)) (h2 : D' (25 + 2 * k) = D (25 + 2 * k)) (h : shC k D s) : shC k D' s := by
  match s, h with
  | none, h => exact (congrFun h1 1).trans h
  | some (la, n, f), h => exact ⟨(congrFun h1 1).trans h.1, (congrFun h1 2).trans h.2.1, (congrFun h1 3).trans h.2.2.1, fun i hi => (congrFun h2 i).trans (h.2.2.2 i hi)⟩
theorem shM_keep {k : Nat} {D D' : m_D} {s : Option (Nat × Nat × (Nat → Int32))} (h1 : D' 56 = D 56) (h2 : D' 57 = D 57) (h3 : D' 58 = D 58) (h : shM k D s) : shM k D' s := by
  match s, h with
  | none, h => exact (congrFun h1 k).trans h
  | some (la, n, f), h => exact ⟨(congrFun h1 k).trans h.1, (congrFun h2 k).trans h.2.1, fun i hi => (congrFun h3 _).trans (h.2.2 i hi)⟩
theorem relC_c {B : Nat} {D D' : m_D} {S : SH} (e : ∀ i, i < 7 → D' (B + i) = D (B + i)) (h : relC B D S) : relC B D' S := by
  obtain ⟨h1, h2, h3, h4, h5⟩ := h
  have e0 : D' B = D B := e 0 (by omega)
  refine ⟨by rw [e0]; exact h1, by rw [e0]; exact h2, fun l hl => ?_, fun c hc => ?_, fun t ht => ?_⟩
  · rw [e 1 (by omega), e 2 (by omega)]
    exact h3 l hl
  · rw [e 3 (by omega), e 4 (by omega), e 5 (by omega)]
    exact h4 c hc
  · rw [e 6 (by omega)]
    exact h5 t ht
theorem relM_c {D D' : m_D} {S : SH} (e : ∀ a, 35 ≤ a → a ≤ 40 → D' a = D a) (e1 : D' 34 1 = D 34 1) (e2 : D' 34 2 = D 34 2) (h : relM D S) : relM D' S := by
  obtain ⟨h1, h2, h3, h4, h5⟩ := h
  refine ⟨by rw [e1]; exact h1, by rw [e2]; exact h2, fun l hl => ?_, fun c hc => ?_, fun t ht => ?_⟩
  · rw [e 35 (by omega) (by omega), e 36 (by omega) (by omega)]
    exact h3 l hl
  · rw [e 37 (by omega) (by omega), e 38 (by omega) (by omega), e 39 (by omega) (by omega)]
    exact h4 c hc
  · rw [e 40 (by omega) (by omega)]
    exact h5 t ht
/-- what an InvC speaks of: cells 0 .. 7 and 24 .. 33; an InvM: 35 .. 40, 54 .. 58, some fields of 34 -/
theorem InvC_keep {Z : ZS} {D D' : m_D} (h : InvC Z D) (hf : ∀ a, a < 8 ∨ (24 ≤ a ∧ a < 34) → D' a = D a) : InvC Z D' := by
  obtain ⟨h1, h2, h3, h4, h5, h6⟩ := h
  have e0 := hf 0 (by omega)
  exact ⟨relC_c (fun i hi => hf _ (by omega)) h1, by rw [e0]; exact h2, fun i hi => by rw [hf 32 (by omega), hf 33 (by omega)]; exact h3 i hi, fun k hk => shC_keep (hf _ (by omega)) (hf _ (by omega)) (h4 k hk), by rw [e0]; exact h5, by rw [e0]; exact h6⟩
theorem InvM_keep {Z : ZS} {D D' : m_D} (h : InvM Z D) (hf : ∀ a, (35 ≤ a ∧ a ≤ 40) ∨ (54 ≤ a ∧ a ≤ 58) → D' a = D a) (hg : ∀ j, j ∈ [0, 1, 2, 26, 33] → D' 34 j = D 34 j) : InvM Z D' := by
  obtain ⟨h1, h2, h3, h4, h5, h6⟩ := h
  exact ⟨relM_c (fun a b c => hf a (by omega)) (hg 1 (by simp)) (hg 2 (by simp)) h1, by rw [hg 26 (by simp)]; exact h2, fun i hi => by rw [hf 54 (by omega), hf 55 (by omega)]; exact h3 i hi, fun k hk => shM_keep (hf _ (by omega)) (hf _ (by omega)) (hf _ (by omega)) (h4 k hk), by rw [hg 33 (by simp)]; exact h5, by rw [hg 0 (by simp)]; exact h6⟩
/-- a pair of calls answers alike: the class's and the reference's -/
def StepI (y ym : Nat) (ax : List Value) : Prop := ∀ (L : Nat) (Z : ZS), okZ Z → ∃ (v : Int32) (Z' : ZS), okZ Z' ∧ (∀ (D : m_D) (Q : m_K), InvC Z D → (∀ D', frC D D' → InvC Z' D' → Q (some (.int v)) D') → m_call L 8 y (.ref 0 :: ax) D Q) ∧ ∀ (D : m_D) (Q : m_K), InvM Z D → (∀ D', frM D D' → InvM Z' D' → Q (some (.int v)) D') → m_call L 8 ym (.ref 34 :: ax) D Q
def StepL (y ym : Nat) (ax : List Value) : Prop := ∀ (L : Nat) (Z : ZS), okZ Z → ∃ (v : Int64) (Z' : ZS), okZ Z' ∧ (∀ (D : m_D) (Q : m_K), InvC Z D → (∀ D', frC D D' → InvC Z' D' → Q (some (.long v)) D') → m_call L 8 y (.ref 0 :: ax) D Q) ∧ ∀ (D : m_D) (Q : m_K), InvM Z D → (∀ D', frM D D' → InvM Z' D' → Q (some (.long v)) D') → m_call L 8 ym (.ref 34 :: ax) D Q
theorem frC.refl (D : m_D) : frC D D := fun _ _ => rfl
theorem frM.refl (D : m_D) : frM D D := fun _ _ => rfl
theorem frC.of {Z : List Nat} {D D' : m_D} (h : m_fr Z D D') (hz : ∀ a ∈ Z, a < 34) : frC D D' := fun a ha => h a (fun z => absurd (hz a z) (by omega))
theorem frM.of {Z F : List Nat} {D D' : m_D} (h : m_fM Z F D D') (hz : ∀ a ∈ Z, 34 ≤ a ∧ a ≠ 60) : frM D D' := fun a ha => h.1 a (fun z => by have := hz a z; omega) (by omega)
theorem vi_iff {x : Int32} {n : Nat} (hn : n < 2 ^ 31) : vp_in x n ↔ (¬ x < 0 ∧ ¬ nI n ≤ x) := by
  rw [vp_in_iff, Int32.lt_iff_toInt_lt, Int32.le_iff_toInt_le, nI_toInt hn, Int32.toInt_zero]
  omega
/-! small questions of the class -/
theorem c_isField {L d : Nat} {x : Int32} {D : m_D} {Q : m_K} (h1 : vp_in x 4 → Q (some (.int 1)) D) (h0 : ¬ vp_in x 4 → Q (some (.int 0)) D) : m_call L (d + 1) 85 [.int x] D Q := by
  rw [vi_iff (by omega)] at h1 h0
  refine v_in (tb' := t_X4_isField) (rk' := 2) rfl rfl rfl ?_
  refine v_go rfl ?_
  refine v_br rfl (fun z => ?_) (fun z => ?_)
  · exact v_go rfl (v_rt rfl (Or.inl rfl) (h0 (fun y => y.1 z)))
  · refine v_go rfl ?_
    refine v_br rfl (fun z2 => ?_) (fun z2 => ?_)
    · exact v_go rfl (v_rt rfl (Or.inl rfl) (h0 (fun y => y.2 z2)))
    · exact v_go rfl (v_rt rfl (Or.inr rfl) (h1 ⟨z, z2⟩))
theorem c_isSheet {L d : Nat} {x : Int32} {D : m_D} {Q : m_K} (h1 : vp_in x 4 → Q (some (.int 1)) D) (h0 : ¬ vp_in x 4 → Q (some (.int 0)) D) : m_call L (d + 1) 87 [.int x] D Q := by
  rw [vi_iff (by omega)] at h1 h0
  refine v_in (tb' := t_X4_isSheet) (rk' := 2) rfl rfl rfl ?_
  refine v_go rfl ?_
  refine v_br rfl (fun z => ?_) (fun z => ?_)
  · exact v_go rfl (v_rt rfl (Or.inl rfl) (h0 (fun y => y.1 z)))
  · refine v_go rfl ?_
    refine v_br rfl (fun z2 => ?_) (fun z2 => ?_)
    · exact v_go rfl (v_rt rfl (Or.inl rfl) (h0 (fun y => y.2 z2)))
    · exact v_go rfl (v_rt rfl (Or.inr rfl) (h1 ⟨z, z2⟩))
theorem c_isLane {L d : Nat} {x : Int32} {D : m_D} {Q : m_K} (h1 : vp_in x 3 → Q (some (.int 1)) D) (h0 : ¬ vp_in x 3 → Q (some (.int 0)) D) : m_call L (d + 1) 88 [.int x] D Q := by
  rw [vi_iff (by omega)] at h1 h0
  refine v_in (tb' := t_X4_isLane) (rk' := 2) rfl rfl rfl ?_
  refine v_go rfl ?_
  refine v_br rfl (fun z => ?_) (fun z => ?_)
  · exact v_go rfl (v_rt rfl (Or.inl rfl) (h0 (fun y => y.1 z)))
  · refine v_go rfl ?_
    refine v_br rfl (fun z2 => ?_) (fun z2 => ?_)
    · exact v_go rfl (v_rt rfl (Or.inl rfl) (h0 (fun y => y.2 z2)))
    · exact v_go rfl (v_rt rfl (Or.inr rfl) (h1 ⟨z, z2⟩))
theorem c_isHour {L d : Nat} {x : Int32} {D : m_D} {Q : m_K} (h1 : vp_in x 6 → Q (some (.int 1)) D) (h0 : ¬ vp_in x 6 → Q (some (.int 0)) D) : m_call L (d + 1) 86 [.int x] D Q := by
  rw [vi_iff (by omega)] at h1 h0
  refine v_in (tb' := t_X4_isHour) (rk' := 2) rfl rfl rfl ?_
  refine v_go rfl ?_
  refine v_br rfl (fun z => ?_) (fun z => ?_)
  · exact v_go rfl (v_rt rfl (Or.inl rfl) (h0 (fun y => y.1 z)))
  · refine v_go rfl ?_
    refine v_br rfl (fun z2 => ?_) (fun z2 => ?_)
    · exact v_go rfl (v_rt rfl (Or.inl rfl) (h0 (fun y => y.2 z2)))
    · exact v_go rfl (v_rt rfl (Or.inr rfl) (h1 ⟨z, z2⟩))
theorem vw_iff {x : Int32} {n : Nat} (hn : n + 1 < 2 ^ 31) : vp_in x (n + 1) ↔ (¬ x < 0 ∧ ¬ nI n < x) := by
  rw [vp_in_iff, Int32.lt_iff_toInt_lt, Int32.lt_iff_toInt_lt, nI_toInt (by omega), Int32.toInt_zero]
  omega
theorem c_isWithin {L d n : Nat} {x : Int32} {D : m_D} {Q : m_K} (hn : n < 1000) (h1 : vp_in x (n + 1) → Q (some (.int 1)) D) (h0 : ¬ vp_in x (n + 1) → Q (some (.int 0)) D) : m_call L (d + 1) 89 [.int x, .int (nI n)] D Q := by
  rw [vw_iff (by omega)] at h1 h0
  refine v_in (tb' := t_X4_isWithin) (rk' := 2) rfl rfl rfl ?_
  refine v_go rfl ?_
  refine v_br rfl (fun z => ?_) (fun z => ?_)
  · exact v_go rfl (v_rt rfl (Or.inl rfl) (h0 (fun y => y.1 z)))
  · refine v_go rfl ?_
    refine v_br rfl (fun z2 => ?_) (fun z2 => ?_)
    · exact v_go rfl (v_rt rfl (Or.inl rfl) (h0 (fun y => y.2 z2)))
    · exact v_go rfl (v_rt rfl (Or.inr rfl) (h1 ⟨z, z2⟩))
theorem c_isLine {L d n : Nat} {x : Int32} {D : m_D} {Q : m_K} (hn : D 1 0 = nI n) (h6 : n ≤ 6) (h1 : vp_in x n → Q (some (.int 1)) D) (h0 : ¬ vp_in x n → Q (some (.int 0)) D) : m_call L (d + 1) 83 [.ref 0, .int x] D Q := by
  rw [vi_iff (by omega)] at h1 h0
  refine v_in (tb' := t_X4_isLine) (rk' := 2) rfl rfl rfl ?_
  refine v_go rfl ?_
  refine v_br rfl (fun z => ?_) (fun z => ?_)
  · exact v_go rfl (v_rt rfl (Or.inl rfl) (h0 (fun y => y.1 z)))
  · refine v_go rfl ?_
    rw [hn]
    refine v_br rfl (fun z2 => ?_) (fun z2 => ?_)
    · exact v_go rfl (v_rt rfl (Or.inl rfl) (h0 (fun y => y.2 z2)))
    · exact v_go rfl (v_rt rfl (Or.inr rfl) (h1 ⟨z, z2⟩))
theorem c_isCrier {L d n : Nat} {x : Int32} {D : m_D} {Q : m_K} (hn : D 1 1 = nI n) (h6 : n ≤ 6) (h1 : vp_in x n → Q (some (.int 1)) D) (h0 : ¬ vp_in x n → Q (some (.int 0)) D) : m_call L (d + 1) 84 [.ref 0, .int x] D Q := by
  rw [vi_iff (by omega)] at h1 h0
  refine v_in (tb' := t_X4_isCrier) (rk' := 2) rfl rfl rfl ?_
  refine v_go rfl ?_
  refine v_br rfl (fun z => ?_) (fun z => ?_)
  · exact v_go rfl (v_rt rfl (Or.inl rfl) (h0 (fun y => y.1 z)))
  · refine v_go rfl ?_
    rw [hn]
    refine v_br rfl (fun z2 => ?_) (fun z2 => ?_)
    · exact v_go rfl (v_rt rfl (Or.inl rfl) (h0 (fun y => y.2 z2)))
    · exact v_go rfl (v_rt rfl (Or.inr rfl) (h1 ⟨z, z2⟩))
theorem c_hasShower {L d n : Nat} {D : m_D} {Q : m_K} (hn : D 1 0 = nI n) (h6 : n ≤ 6) (h1 : n ≠ 0 → Q (some (.int 1)) D) (h0 : n = 0 → Q (some (.int 0)) D) : m_call L (d + 1) 82 [.ref 0] D Q := by
  refine v_in (tb' := t_X4_hasShower) (rk' := 2) rfl rfl rfl ?_
  refine v_go rfl ?_
  rw [hn]
  by_cases e : n = 0
  · subst e
    refine v_bT rfl (by decide) ?_
    exact v_go rfl (v_rt rfl (Or.inl rfl) (h0 rfl))
  · refine v_bF rfl (nI_nle (by omega) (by omega)) ?_
    exact v_go rfl (v_rt rfl (Or.inr rfl) (h1 e))
/-- the common order of refusals of calls on a field -/
theorem c_refusalOf {L d n : Nat} {x b : Int32} {D : m_D} {Q : m_K} (hn : D 1 0 = nI n) (h6 : n ≤ 6) (hu : ¬ vp_in x 4 → Q (some (.int (-1))) D) (ho : vp_in x 4 → b = 0 → Q (some (.int (-2))) D) (hs : vp_in x 4 → ¬ b = 0 → n = 0 → Q (some (.int (-3))) D) (hk : vp_in x 4 → ¬ b = 0 → n ≠ 0 → Q (some (.int 0)) D) : m_call L (d + 2) 81 [.ref 0, .int x, .int b] D Q := by
  refine v_in (tb' := t_X4_refusalOf) (rk' := 1) rfl rfl rfl ?_
  refine v_go rfl ?_
  refine v_ca rfl ?_
  refine c_isField (fun hx => ?_) (fun hx => ?_)
  · refine v_go rfl ?_
    refine v_bT rfl (by decide) ?_
    refine v_go rfl ?_
    refine v_br rfl (fun hb => ?_) (fun hb => ?_)
    · refine v_go rfl ?_
      refine v_ca rfl ?_
      refine c_hasShower hn h6 (fun hz => ?_) (fun hz => ?_)
      · refine v_go rfl ?_
        refine v_bF rfl (by decide) ?_
        exact v_go rfl (v_rt rfl trivial (hk hx hb hz))
      · refine v_go rfl ?_
        refine v_bT rfl (by decide) ?_
        exact v_go rfl (v_rt rfl trivial (hs hx hb hz))
    · have hb : b = 0 := Decidable.not_not.mp hb
      exact v_go rfl (v_rt rfl trivial (ho hx hb))
  · refine v_go rfl ?_
    refine v_bF rfl (by decide) ?_
    exact v_go rfl (v_rt rfl trivial (hu hx))
