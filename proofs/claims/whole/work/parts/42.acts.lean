/-! ===== the acts of a day ===== -/
def p_act (a b : Int32) : Prop := vp_in b 13 ∧ (b < 6 → vp_in a 10) ∧ (¬ b < 6 → vp_in a 6)
theorem c_isAct {L d : Nat} {a b : Int32} {D : m_D} {Q : m_K} (h1 : p_act a b → Q (some (.int 1)) D) (h0 : ¬ p_act a b → Q (some (.int 0)) D) : m_call L (d + 2) 40 [.ref 0, .int a, .int b] D Q := by
  have v13 : vp_in b 13 ↔ ¬ b < 0 ∧ ¬ (13 : Int32) ≤ b := vi_iff (n := 13) (by omega)
  have l13 : ¬ (13 : Int32) ≤ b ↔ b < 13 := by
    rw [Int32.le_iff_toInt_le, Int32.lt_iff_toInt_lt]
    omega
  have l6 : (6 : Int32) ≤ b ↔ ¬ b < 6 := by
    rw [Int32.le_iff_toInt_le, Int32.lt_iff_toInt_lt]
    omega
  rw [l13] at v13
  refine v_in (tb' := t_X4_isAct) (rk' := 2) rfl rfl rfl ?_
  refine v_go rfl ?_
  refine v_br rfl (fun z => ?_) (fun z => ?_)
  · exact v_go rfl (v_rt rfl (Or.inl rfl) (h0 (fun y => (v13.mp y.1).1 z)))
  · refine v_go rfl ?_
    refine v_br rfl (fun z2 => ?_) (fun z2 => ?_)
    · have hv := v13.mpr ⟨z, z2⟩
      refine v_go rfl ?_
      refine v_br rfl (fun z3 => ?_) (fun z3 => ?_)
      · have z3 := l6.mp z3
        refine v_go rfl ?_
        refine v_br rfl (fun z4 => ?_) (fun z4 => ?_)
        · refine v_go rfl ?_
          refine v_ca rfl ?_
          refine c_isHour (fun y => ?_) (fun y => ?_)
          · exact v_go rfl (v_rt rfl (Or.inr rfl) (h1 ⟨hv, fun q => absurd q z3, fun _ => y⟩))
          · exact v_go rfl (v_rt rfl (Or.inl rfl) (h0 (fun q => y (q.2.2 z3))))
        · refine v_go rfl ?_
          refine v_ca rfl ?_
          refine c_isWithin (n := 5) (by omega) (fun y => ?_) (fun y => ?_)
          · exact v_go rfl (v_rt rfl (Or.inr rfl) (h1 ⟨hv, fun q => absurd q z3, fun _ => y⟩))
          · exact v_go rfl (v_rt rfl (Or.inl rfl) (h0 (fun q => y (q.2.2 z3))))
      · have z3 : b < 6 := Decidable.not_not.mp (fun q => z3 (l6.mpr q))
        refine v_go rfl ?_
        refine v_ca rfl ?_
        refine c_isWithin (n := 9) (by omega) (fun y => ?_) (fun y => ?_)
        · exact v_rt rfl (Or.inr rfl) (h1 ⟨hv, fun _ => y, fun q => absurd z3 q⟩)
        · exact v_rt rfl (Or.inl rfl) (h0 (fun q => y (q.2.1 z3)))
    · exact v_go rfl (v_rt rfl (Or.inl rfl) (h0 (fun y => z2 (v13.mp y.1).2)))
theorem c_isAsTold {L d : Nat} {a b : Int32} {D : m_D} {Q : m_K} (h1 : p_act a b → Q (some (.int 1)) D) (h0 : ¬ p_act a b → Q (some (.int 0)) D) : m_call L (d + 2) 126 [.int a, .int b] D Q := by
  have l6 : (6 : Int32) ≤ b ↔ ¬ b < 6 := by
    rw [Int32.le_iff_toInt_le, Int32.lt_iff_toInt_lt]
    omega
  refine v_in (tb' := t_X5_isAsTold) (rk' := 2) rfl rfl rfl ?_
  refine v_go rfl ?_
  refine v_ca rfl ?_
  refine c_in (fun p1 p2 => ?_) (fun z => ?_)
  · have hv := (in_iff (n := 13) (by decide)).mp ⟨p1, p2⟩
    refine v_go rfl ?_
    refine v_bF rfl (by decide) ?_
    refine v_go rfl ?_
    refine v_br rfl (fun z3 => ?_) (fun z3 => ?_)
    · have z3 := l6.mp z3
      refine v_go rfl ?_
      refine v_ca rfl ?_
      refine c_in (fun p1 p2 => ?_) (fun z => ?_)
      · have hy := (in_iff (n := 6) (by decide)).mp ⟨p1, p2⟩
        refine v_go rfl ?_
        refine v_bF rfl (by decide) ?_
        exact v_go rfl (v_rt rfl (Or.inr rfl) (h1 ⟨hv, fun q => absurd q z3, fun _ => hy⟩))
      · refine v_go rfl ?_
        refine v_bT rfl rfl ?_
        exact v_go rfl (v_rt rfl (Or.inl rfl) (h0 (fun q => z ((in_iff (n := 6) (by decide)).mpr (q.2.2 z3)))))
    · have z3 : b < 6 := Decidable.not_not.mp (fun q => z3 (l6.mpr q))
      refine v_go rfl ?_
      refine v_ca rfl ?_
      refine c_in (fun p1 p2 => ?_) (fun z => ?_)
      · have hy := (in_iff (n := 10) (by decide)).mp ⟨p1, p2⟩
        refine v_go rfl ?_
        refine v_bF rfl (by decide) ?_
        exact v_go rfl (v_rt rfl (Or.inr rfl) (h1 ⟨hv, fun _ => hy, fun q => absurd z3 q⟩))
      · refine v_go rfl ?_
        refine v_bT rfl rfl ?_
        exact v_go rfl (v_rt rfl (Or.inl rfl) (h0 (fun q => z ((in_iff (n := 10) (by decide)).mpr (q.2.1 z3)))))
  · refine v_go rfl ?_
    refine v_bT rfl rfl ?_
    exact v_go rfl (v_rt rfl (Or.inl rfl) (h0 (fun q => z ((in_iff (n := 13) (by decide)).mpr q.1))))
def p_do (S : SH) (x y : Nat) : Option SH := if y < 6 then (if y < S.1 then some (setT S 0 y x) else none) else if y < 9 then (if y - 6 < S.2.1 ∧ x < S.1 then some (setT S 4 (y - 6) x) else none) else some (flipC S (y - 9) x)
def okA (x y : Nat) : Prop := y < 13 ∧ (y < 6 → x ≤ 9) ∧ (¬ y < 6 → x < 6)
theorem p_do_a {S : SH} {x y : Nat} (h : y < 6) (h2 : y < S.1) : p_do S x y = some (setT S 0 y x) := by
  unfold p_do
  rw [if_pos h, if_pos h2]
theorem p_do_a0 {S : SH} {x y : Nat} (h : y < 6) (h2 : ¬ y < S.1) : p_do S x y = none := by
  unfold p_do
  rw [if_pos h, if_neg h2]
theorem p_do_b {S : SH} {x y : Nat} (h : ¬ y < 6) (h9 : y < 9) (h2 : y - 6 < S.2.1 ∧ x < S.1) : p_do S x y = some (setT S 4 (y - 6) x) := by
  unfold p_do
  rw [if_neg h, if_pos h9, if_pos h2]
theorem p_do_b0 {S : SH} {x y : Nat} (h : ¬ y < 6) (h9 : y < 9) (h2 : ¬ (y - 6 < S.2.1 ∧ x < S.1)) : p_do S x y = none := by
  unfold p_do
  rw [if_neg h, if_pos h9, if_neg h2]
theorem p_do_c {S : SH} {x y : Nat} (h : ¬ y < 6) (h9 : ¬ y < 9) : p_do S x y = some (flipC S (y - 9) x) := by
  unfold p_do
  rw [if_neg h, if_neg h9]
def sameS (S1 S : SH) : Prop := S1.1 = S.1 ∧ S1.2.1 = S.2.1 ∧ ∀ i c, i = 1 ∨ i = 2 ∨ i = 3 → S1.2.2.1 i c = S.2.2.1 i c
theorem p_do_ok {S S2 : SH} {x y : Nat} (ho : okS S) (ha : okA x y) (h : p_do S x y = some S2) : okS S2 ∧ sameS S2 S := by
  obtain ⟨h13, hx9, hx6⟩ := ha
  by_cases h6 : y < 6
  · by_cases h2 : y < S.1
    · rw [p_do_a h6 h2] at h
      cases h
      exact ⟨okS_setT ho ⟨fun _ => hx9 h6, fun z => (by omega), fun z => (by omega), fun z => (by omega), fun z => (by omega)⟩, rfl, rfl, fun i c hi => setT_n (fun z => by omega)⟩
    · rw [p_do_a0 h6 h2] at h
      cases h
  · by_cases h9 : y < 9
    · by_cases h2 : y - 6 < S.2.1 ∧ x < S.1
      · rw [p_do_b h6 h9 h2] at h
        cases h
        exact ⟨okS_setT ho ⟨fun z => (by omega), fun z => (by omega), fun z => (by omega), fun z => (by omega), fun z => h2.2⟩, rfl, rfl, fun i c hi => setT_n (fun z => by omega)⟩
      · rw [p_do_b0 h6 h9 h2] at h
        cases h
    · rw [p_do_c h6 h9] at h
      cases h
      exact ⟨ho, rfl, rfl, fun _ _ _ => rfl⟩
theorem c_does {L d x y : Nat} {S : SH} {D : m_D} {Q : m_K} (hr : relC 8 D S) (ho : okS S) (ha : okA x y) (h1 : ∀ D' S2, p_do S x y = some S2 → m_fr z_T D D' → relC 8 D' S2 → Q (some (.int 1)) D') (h0 : p_do S x y = none → Q (some (.int 0)) D) : m_call L (d + 2) 21 [.ref 8, .int (nI x), .int (nI y)] D Q := by
  obtain ⟨h13, hx9, hx6⟩ := ha
  have hn6 := ho.1
  have hk3 := ho.2.1
  have r0 : D 8 0 = nI S.1 := hr.1
  have r1 : D 8 1 = nI S.2.1 := hr.2.1
  have hf0 : m_fr z_T D D := m_fr.refl _ _
  refine v_in (tb' := t_X2_does) (rk' := 2) rfl rfl rfl ?_
  refine v_go rfl ?_
  by_cases h6 : y < 6
  · have hin : vp_in (nI y) 6 := vp_in_nI (by omega) (by omega)
    have hcl : (nI y).toNatClampNeg = y := nI_clamp (by omega)
    refine v_bF rfl (nI_ge (b := 6) h6 (by omega)) ?_
    refine v_go rfl ?_
    rw [r0]
    by_cases h2 : y < S.1
    · refine v_bT rfl (nI_lt h2 (by omega)) ?_
      refine v_go rfl ?_
      refine v_sd rfl hin ?_
      rw [hcl]
      exact v_go rfl (v_rt rfl (Or.inr rfl) (h1 _ _ (p_do_a h6 h2) (hf0.up (by simp)) (relC_setT (B := 8) (i := 0) (by omega) hr)))
    · refine v_bF rfl (nI_nlt (by omega) (by omega)) ?_
      exact v_go rfl (v_rt rfl (Or.inl rfl) (h0 (p_do_a0 h6 h2)))
  · refine v_bT rfl (nI_le (a := 6) (by omega) (by omega)) ?_
    refine v_go rfl ?_
    by_cases h9 : y < 9
    · have e6 : nI y - 6 = nI (y - 6) := pk_sub (b := 6) (by omega)
      refine v_bF rfl (nI_ge (b := 9) h9 (by omega)) ?_
      refine v_go rfl ?_
      rw [r1, e6]
      by_cases ha1 : y - 6 < S.2.1
      · refine v_bF rfl (nI_ge ha1 (by omega)) ?_
        refine v_go rfl ?_
        rw [r0]
        by_cases ha2 : x < S.1
        · have hin : vp_in (nI (y - 6)) 3 := vp_in_nI (by omega) (by omega)
          have hcl : (nI (y - 6)).toNatClampNeg = y - 6 := nI_clamp (by omega)
          refine v_bT rfl (nI_lt ha2 (by omega)) ?_
          refine v_go rfl ?_
          rw [e6]
          refine v_sd rfl hin ?_
          rw [hcl]
          exact v_go rfl (v_rt rfl (Or.inr rfl) (h1 _ _ (p_do_b h6 h9 ⟨ha1, ha2⟩) (hf0.up (by simp)) (relC_setT (B := 8) (i := 4) (by omega) hr)))
        · refine v_bF rfl (nI_nlt (by omega) (by omega)) ?_
          exact v_go rfl (v_rt rfl (Or.inl rfl) (h0 (p_do_b0 h6 h9 (fun z => ha2 z.2))))
      · refine v_bT rfl (nI_le (by omega) (by omega)) ?_
        exact v_go rfl (v_rt rfl (Or.inl rfl) (h0 (p_do_b0 h6 h9 (fun z => ha1 z.1))))
    · have e9 : nI y - 9 = nI (y - 9) := pk_sub (b := 9) (by omega)
      refine v_bT rfl (nI_le (a := 9) (by omega) (by omega)) ?_
      refine v_go rfl ?_
      refine v_ca rfl ?_
      rw [e9]
      have h6x := hx6 h6
      refine c_turn (Or.inr rfl) h6x ?_
      exact v_go rfl (v_rt rfl (Or.inr rfl) (h1 _ _ (p_do_c h6 h9) (hf0.up (by simp)) (relC_flip (B := 8) (by omega) h6x hr)))
theorem c_prM {L d x y : Nat} {S : SH} {D : m_D} {Q : m_K} (hr : relM D S) (ho : okS S) (hy : y < 100) (hx : x ≤ 9) (h1 : y < S.1 → Q (some (.int (nI (S.2.2.1 0 y)))) (m_up D 35 y (nI x))) (h0 : ¬ y < S.1 → Q (some (.int (-1))) D) : m_call L (d + 3) 119 [.ref 34, .int (nI y), .int (nI x)] D Q := by
  have hn6 := ho.1
  refine v_in (tb' := t_X5_print) (rk' := 1) rfl rfl rfl ?_
  refine v_go rfl ?_
  refine v_ca rfl ?_
  refine c_noLine hr.1 hn6 (fun z => ?_) (fun z => ?_)
  · have hy2 : y < S.1 := by
      obtain ⟨q, hq, e⟩ := vp_in_of z (by omega)
      have := (nI_eq (by omega) (by omega)).mp e
      omega
    have hin : vp_in (nI y) 6 := vp_in_nI (by omega) (by omega)
    have hcl : (nI y).toNatClampNeg = y := nI_clamp (by omega)
    have e35 : D 35 y = nI (S.2.2.1 0 y) := (hr.2.2.1 y hy2).1
    refine v_go rfl ?_
    refine v_bT rfl rfl ?_
    refine v_go rfl ?_
    refine v_ca rfl ?_
    refine c_in (fun _ _ => ?_) (fun z => absurd ((in_iff (n := 10) (by decide)).mpr (vp_in_nI (by omega) (by omega))) z)
    refine v_go rfl ?_
    refine v_bT rfl (by decide) ?_
    refine v_go rfl ?_
    refine v_sd rfl hin ?_
    rw [hcl, e35]
    refine v_go rfl ?_
    refine v_sd rfl hin ?_
    rw [hcl]
    exact v_go rfl (v_rt rfl trivial (h1 hy2))
  · refine v_go rfl ?_
    refine v_bF rfl (by decide) ?_
    exact v_go rfl (v_rt rfl trivial (h0 (fun y2 => z (vp_in_nI y2 (by omega)))))
theorem c_bgM {L d x y : Nat} {S : SH} {D : m_D} {Q : m_K} (hr : relM D S) (ho : okS S) (hy : y < 100) (hx : x < 100) (h1 : y < S.2.1 → x < S.1 → Q (some (.int (nI (S.2.2.1 4 y)))) (m_up D 39 y (nI x))) (h0 : ¬ (y < S.2.1 ∧ x < S.1) → Q (some (.int (-1))) D) : m_call L (d + 3) 120 [.ref 34, .int (nI y), .int (nI x)] D Q := by
  have hn6 := ho.1
  have hk3 := ho.2.1
  refine v_in (tb' := t_X5_begin) (rk' := 1) rfl rfl rfl ?_
  refine v_go rfl ?_
  refine v_ca rfl ?_
  refine c_noCrier hr.2.1 (by omega) (fun z => ?_) (fun z => ?_)
  · have hy2 : y < S.2.1 := by
      obtain ⟨q, hq, e⟩ := vp_in_of z (by omega)
      have := (nI_eq (by omega) (by omega)).mp e
      omega
    refine v_go rfl ?_
    refine v_bF rfl (by decide) ?_
    refine v_go rfl ?_
    refine v_ca rfl ?_
    refine c_noLine hr.1 hn6 (fun z2 => ?_) (fun z2 => ?_)
    · have hx2 : x < S.1 := by
        obtain ⟨q, hq, e⟩ := vp_in_of z2 (by omega)
        have := (nI_eq (by omega) (by omega)).mp e
        omega
      have hin : vp_in (nI y) 3 := vp_in_nI (by omega) (by omega)
      have hcl : (nI y).toNatClampNeg = y := nI_clamp (by omega)
      have e39 : D 39 y = nI (S.2.2.1 4 y) := (hr.2.2.2.1 y hy2).2.2
      refine v_go rfl ?_
      refine v_bT rfl rfl ?_
      refine v_go rfl ?_
      refine v_sd rfl hin ?_
      rw [hcl, e39]
      refine v_go rfl ?_
      refine v_sd rfl hin ?_
      rw [hcl]
      exact v_go rfl (v_rt rfl trivial (h1 hy2 hx2))
    · refine v_go rfl ?_
      refine v_bF rfl (by decide) ?_
      exact v_go rfl (v_rt rfl trivial (h0 (fun y2 => z2 (vp_in_nI y2.2 (by omega)))))
  · refine v_go rfl ?_
    refine v_bT rfl (by decide) ?_
    exact v_go rfl (v_rt rfl trivial (h0 (fun y2 => z (vp_in_nI y2.1 (by omega)))))
theorem c_doesPair {L d x y : Nat} {S : SH} {D : m_D} {Q : m_K} (hr : relM D S) (ho : okS S) (ha : okA x y) (h1 : ∀ D' S2, p_do S x y = some S2 → m_fM [35, 39, 40] [] D D' → relM D' S2 → Q (some (.int 1)) D') (h0 : p_do S x y = none → Q (some (.int 0)) D) : m_call L (d + 4) 127 [.ref 34, .int (nI x), .int (nI y)] D Q := by
  obtain ⟨h13, hx9, hx6⟩ := ha
  have hn6 := ho.1
  have hk3 := ho.2.1
  have hf0 : m_fM [35, 39, 40] [] D D := m_fM.refl _ _ _
  refine v_in (tb' := t_X5_doesPair) (rk' := 2) rfl rfl rfl ?_
  refine v_go rfl ?_
  by_cases h6 : y < 6
  · refine v_bF rfl (nI_ge (b := 6) h6 (by omega)) ?_
    refine v_go rfl ?_
    refine v_ca rfl ?_
    refine c_prM hr ho (by omega) (hx9 h6) (fun z => ?_) (fun z => ?_)
    · have hd9 := (ho.2.2.1 y z).1
      refine v_go rfl ?_
      refine v_bF rfl (nI_pos (by omega)) ?_
      exact v_go rfl (v_rt rfl (Or.inr rfl) (h1 _ _ (p_do_a h6 z) (hf0.up (by simp) (by decide)) (relM_setT (i := 0) (by omega) hr)))
    · refine v_go rfl ?_
      refine v_bT rfl (by decide) ?_
      exact v_go rfl (v_rt rfl (Or.inl rfl) (h0 (p_do_a0 h6 z)))
  · refine v_bT rfl (nI_le (a := 6) (by omega) (by omega)) ?_
    refine v_go rfl ?_
    have h6x := hx6 h6
    by_cases h9 : y < 9
    · have e6 : nI y - 6 = nI (y - 6) := pk_sub (b := 6) (by omega)
      refine v_bF rfl (nI_ge (b := 9) h9 (by omega)) ?_
      refine v_go rfl ?_
      refine v_ca rfl ?_
      rw [e6]
      refine c_bgM hr ho (by omega) (by omega) (fun z z2 => ?_) (fun z => ?_)
      · have hs4 := (ho.2.2.2 _ z).2.2.2
        refine v_go rfl ?_
        refine v_bF rfl (nI_pos (by omega)) ?_
        exact v_go rfl (v_rt rfl (Or.inr rfl) (h1 _ _ (p_do_b h6 h9 ⟨z, z2⟩) (hf0.up (by simp) (by decide)) (relM_setT (i := 4) (by omega) hr)))
      · refine v_go rfl ?_
        refine v_bT rfl (by decide) ?_
        exact v_go rfl (v_rt rfl (Or.inl rfl) (h0 (p_do_b0 h6 h9 z)))
    · have e9 : nI y - 9 = nI (y - 9) := pk_sub (b := 9) (by omega)
      refine v_bT rfl (nI_le (a := 9) (by omega) (by omega)) ?_
      refine v_go rfl ?_
      refine v_ca rfl ?_
      rw [e9]
      refine c_coughed hr (by omega) h6x ?_
      have hn : ¬ (if (flipC S (y - 9) x).2.2.2 (y - 9) x = true then (1 : Int32) else 0) < 0 := by
        split
        · decide
        · decide
      refine v_go rfl ?_
      refine v_bF rfl hn ?_
      exact v_go rfl (v_rt rfl (Or.inr rfl) (h1 _ _ (p_do_c h6 h9) (hf0.up (by simp) (by decide)) (relM_flip (by omega) h6x hr)))
def p_dy (S : SH) (c : Nat → Nat × Nat) : Nat → SH × Option Nat
  | 0 => (S, none)
  | m + 1 => match p_dy S c m with
    | (S1, some w) => (S1, some w)
    | (S1, none) => match p_do S1 (c m).1 (c m).2 with
      | none => (S1, some m)
      | some S2 => (S2, none)
theorem p_dy_n {S S1 : SH} {c : Nat → Nat × Nat} {m : Nat} (h : p_dy S c m = (S1, none)) (h2 : p_do S1 (c m).1 (c m).2 = none) : p_dy S c (m + 1) = (S1, some m) := by
  show (match p_dy S c m with
    | (S1, some w) => (S1, some w)
    | (S1, none) => match p_do S1 (c m).1 (c m).2 with
      | none => (S1, some m)
      | some S2 => (S2, none)) = _
  rw [h]
  dsimp only
  rw [h2]
theorem p_dy_s {S S1 S2 : SH} {c : Nat → Nat × Nat} {m : Nat} (h : p_dy S c m = (S1, none)) (h2 : p_do S1 (c m).1 (c m).2 = some S2) : p_dy S c (m + 1) = (S2, none) := by
  show (match p_dy S c m with
    | (S1, some w) => (S1, some w)
    | (S1, none) => match p_do S1 (c m).1 (c m).2 with
      | none => (S1, some m)
      | some S2 => (S2, none)) = _
  rw [h]
  dsimp only
  rw [h2]
theorem p_dy_w {S S1 : SH} {c : Nat → Nat × Nat} {m w : Nat} (h : p_dy S c m = (S1, some w)) : ∀ q, p_dy S c (m + q) = (S1, some w)
  | 0 => h
  | q + 1 => by
    show (match p_dy S c (m + q) with
      | (S1, some w) => (S1, some w)
      | (S1, none) => match p_do S1 (c (m + q)).1 (c (m + q)).2 with
        | none => (S1, some (m + q))
        | some S2 => (S2, none)) = _
    rw [p_dy_w h q]
def cA (f : Nat → Int32) (a p : Nat) : Nat × Nat := ((f (a + 2 * p)).toNatClampNeg, (f (a + 2 * p + 1)).toNatClampNeg)
def allA (f : Nat → Int32) (a m : Nat) : Prop := ∀ p, p < m → p_act (f (a + 2 * p)) (f (a + 2 * p + 1))
theorem act_ok {a b : Int32} (h : p_act a b) : a = nI a.toNatClampNeg ∧ b = nI b.toNatClampNeg ∧ okA a.toNatClampNeg b.toNatClampNeg := by
  obtain ⟨h13, h9, h6⟩ := h
  obtain ⟨y, hy, rfl⟩ := vp_in_of h13 (by omega)
  have ey : (nI y).toNatClampNeg = y := nI_clamp (by omega)
  rw [ey]
  by_cases hb : y < 6
  · obtain ⟨x, hx, rfl⟩ := vp_in_of (h9 (nI_lt (b := 6) hb (by omega))) (by omega)
    have ex : (nI x).toNatClampNeg = x := nI_clamp (by omega)
    rw [ex]
    exact ⟨rfl, rfl, hy, fun _ => (by omega), fun z => absurd hb z⟩
  · obtain ⟨x, hx, rfl⟩ := vp_in_of (h6 (nI_nlt (b := 6) (by omega) (by omega))) (by omega)
    have ex : (nI x).toNatClampNeg = x := nI_clamp (by omega)
    rw [ex]
    exact ⟨rfl, rfl, hy, fun z => absurd z hb, fun _ => hx⟩
theorem sameS.trans {A B C : SH} (h : sameS A B) (g : sameS B C) : sameS A C := ⟨h.1.trans g.1, h.2.1.trans g.2.1, fun i c hi => (h.2.2 i c hi).trans (g.2.2 i c hi)⟩
theorem ix2 (a p : Nat) : nI a + 2 * nI p = nI (a + 2 * p) := by rw [show (2 : Int32) = nI 2 from rfl, pk_mul, nI_add]
theorem ix3 (a p : Nat) : nI a + 2 * nI p + 1 = nI (a + 2 * p + 1) := by rw [ix2, nI_1]
theorem c_areActs {L d k a m n : Nat} {f : Nat → Int32} {D : m_D} {Q : m_K} (hk : k < 4) (hn : n ≤ 60) (ham : a + 2 * m ≤ n) (hs : ∀ i, i < n → D (25 + 2 * k) i = f i) (h1 : allA f a m → Q (some (.int 1)) D) (h0 : ¬ allA f a m → Q (some (.int 0)) D) : m_call L (d + 3) 39 [.ref 0, .ref (24 + 2 * k), .int (nI a), .int (nI m)] D Q := by
  have hk4 : k = 0 ∨ k = 1 ∨ k = 2 ∨ k = 3 := by omega
  rcases hk4 with rfl | rfl | rfl | rfl
  · refine v_in (tb' := t_X4_areActs) (rk' := 2) rfl rfl rfl ?_
    refine v_run 2 rfl ?_
    have key : ∀ (q p : Nat), p + q = m → allA f a p → m_V L (d + 2) Q t_X4_areActs 2 (3, [some (.ref 0), some (.ref (24 + 2 * 0)), some (.int (nI a)), some (.int (nI m)), some (.int (nI p))], [], D) := by
      intro q
      induction q with
      | zero =>
        intro p hq hp
        have hq : p = m := by omega
        subst hq
        refine v_go rfl ?_
        refine v_bT rfl (Int32.le_refl _) ?_
        exact v_go rfl (v_rt rfl (Or.inr rfl) (h1 hp))
      | succ q ih =>
        intro p hq hp
        have i1 : vp_in (nI (a + 2 * p)) 60 := vp_in_nI (by omega) (by omega)
        have c1 : (nI (a + 2 * p)).toNatClampNeg = a + 2 * p := nI_clamp (by omega)
        have i2 : vp_in (nI (a + 2 * p + 1)) 60 := vp_in_nI (by omega) (by omega)
        have c2 : (nI (a + 2 * p + 1)).toNatClampNeg = a + 2 * p + 1 := nI_clamp (by omega)
        refine v_go rfl ?_
        refine v_bF rfl (nI_ge (by omega) (by omega)) ?_
        refine v_go rfl ?_
        rw [ix2]
        refine v_sd rfl i1 ?_
        rw [c1, hs _ (by omega)]
        refine v_go rfl ?_
        rw [ix3]
        refine v_sd rfl i2 ?_
        rw [c2, hs _ (by omega)]
        refine v_ca rfl ?_
        refine c_isAct (fun z => ?_) (fun z => ?_)
        · have ih := ih (p + 1) (by omega) (fun p' hp' => by
            by_cases e : p' = p
            · rw [e]
              exact z
            · exact hp p' (by omega))
          rw [← nI_1] at ih
          refine v_go rfl ?_
          refine v_bT rfl (by decide) ?_
          exact v_run 2 rfl ih
        · refine v_go rfl ?_
          refine v_bF rfl (by decide) ?_
          exact v_go rfl (v_rt rfl (Or.inl rfl) (h0 (fun y => z (y p (by omega)))))
    exact key m 0 (by omega) (fun p hp => absurd hp (by omega))
  · refine v_in (tb' := t_X4_areActs) (rk' := 2) rfl rfl rfl ?_
    refine v_run 2 rfl ?_
    have key : ∀ (q p : Nat), p + q = m → allA f a p → m_V L (d + 2) Q t_X4_areActs 2 (3, [some (.ref 0), some (.ref (24 + 2 * 1)), some (.int (nI a)), some (.int (nI m)), some (.int (nI p))], [], D) := by
      intro q
      induction q with
      | zero =>
        intro p hq hp
        have hq : p = m := by omega
        subst hq
        refine v_go rfl ?_
        refine v_bT rfl (Int32.le_refl _) ?_
        exact v_go rfl (v_rt rfl (Or.inr rfl) (h1 hp))
      | succ q ih =>
        intro p hq hp
        have i1 : vp_in (nI (a + 2 * p)) 60 := vp_in_nI (by omega) (by omega)
        have c1 : (nI (a + 2 * p)).toNatClampNeg = a + 2 * p := nI_clamp (by omega)
        have i2 : vp_in (nI (a + 2 * p + 1)) 60 := vp_in_nI (by omega) (by omega)
        have c2 : (nI (a + 2 * p + 1)).toNatClampNeg = a + 2 * p + 1 := nI_clamp (by omega)
        refine v_go rfl ?_
        refine v_bF rfl (nI_ge (by omega) (by omega)) ?_
        refine v_go rfl ?_
        rw [ix2]
        refine v_sd rfl i1 ?_
        rw [c1, hs _ (by omega)]
        refine v_go rfl ?_
        rw [ix3]
        refine v_sd rfl i2 ?_
        rw [c2, hs _ (by omega)]
        refine v_ca rfl ?_
        refine c_isAct (fun z => ?_) (fun z => ?_)
        · have ih := ih (p + 1) (by omega) (fun p' hp' => by
            by_cases e : p' = p
            · rw [e]
              exact z
            · exact hp p' (by omega))
          rw [← nI_1] at ih
          refine v_go rfl ?_
          refine v_bT rfl (by decide) ?_
          exact v_run 2 rfl ih
        · refine v_go rfl ?_
          refine v_bF rfl (by decide) ?_
          exact v_go rfl (v_rt rfl (Or.inl rfl) (h0 (fun y => z (y p (by omega)))))
    exact key m 0 (by omega) (fun p hp => absurd hp (by omega))
  · refine v_in (tb' := t_X4_areActs) (rk' := 2) rfl rfl rfl ?_
    refine v_run 2 rfl ?_
    have key : ∀ (q p : Nat), p + q = m → allA f a p → m_V L (d + 2) Q t_X4_areActs 2 (3, [some (.ref 0), some (.ref (24 + 2 * 2)), some (.int (nI a)), some (.int (nI m)), some (.int (nI p))], [], D) := by
      intro q
      induction q with
      | zero =>
        intro p hq hp
        have hq : p = m := by omega
        subst hq
        refine v_go rfl ?_
        refine v_bT rfl (Int32.le_refl _) ?_
        exact v_go rfl (v_rt rfl (Or.inr rfl) (h1 hp))
      | succ q ih =>
        intro p hq hp
        have i1 : vp_in (nI (a + 2 * p)) 60 := vp_in_nI (by omega) (by omega)
        have c1 : (nI (a + 2 * p)).toNatClampNeg = a + 2 * p := nI_clamp (by omega)
        have i2 : vp_in (nI (a + 2 * p + 1)) 60 := vp_in_nI (by omega) (by omega)
        have c2 : (nI (a + 2 * p + 1)).toNatClampNeg = a + 2 * p + 1 := nI_clamp (by omega)
        refine v_go rfl ?_
        refine v_bF rfl (nI_ge (by omega) (by omega)) ?_
        refine v_go rfl ?_
        rw [ix2]
        refine v_sd rfl i1 ?_
        rw [c1, hs _ (by omega)]
        refine v_go rfl ?_
        rw [ix3]
        refine v_sd rfl i2 ?_
        rw [c2, hs _ (by omega)]
        refine v_ca rfl ?_
        refine c_isAct (fun z => ?_) (fun z => ?_)
        · have ih := ih (p + 1) (by omega) (fun p' hp' => by
            by_cases e : p' = p
            · rw [e]
              exact z
            · exact hp p' (by omega))
          rw [← nI_1] at ih
          refine v_go rfl ?_
          refine v_bT rfl (by decide) ?_
          exact v_run 2 rfl ih
        · refine v_go rfl ?_
          refine v_bF rfl (by decide) ?_
          exact v_go rfl (v_rt rfl (Or.inl rfl) (h0 (fun y => z (y p (by omega)))))
    exact key m 0 (by omega) (fun p hp => absurd hp (by omega))
  · refine v_in (tb' := t_X4_areActs) (rk' := 2) rfl rfl rfl ?_
    refine v_run 2 rfl ?_
    have key : ∀ (q p : Nat), p + q = m → allA f a p → m_V L (d + 2) Q t_X4_areActs 2 (3, [some (.ref 0), some (.ref (24 + 2 * 3)), some (.int (nI a)), some (.int (nI m)), some (.int (nI p))], [], D) := by
      intro q
      induction q with
      | zero =>
        intro p hq hp
        have hq : p = m := by omega
        subst hq
        refine v_go rfl ?_
        refine v_bT rfl (Int32.le_refl _) ?_
        exact v_go rfl (v_rt rfl (Or.inr rfl) (h1 hp))
      | succ q ih =>
        intro p hq hp
        have i1 : vp_in (nI (a + 2 * p)) 60 := vp_in_nI (by omega) (by omega)
        have c1 : (nI (a + 2 * p)).toNatClampNeg = a + 2 * p := nI_clamp (by omega)
        have i2 : vp_in (nI (a + 2 * p + 1)) 60 := vp_in_nI (by omega) (by omega)
        have c2 : (nI (a + 2 * p + 1)).toNatClampNeg = a + 2 * p + 1 := nI_clamp (by omega)
        refine v_go rfl ?_
        refine v_bF rfl (nI_ge (by omega) (by omega)) ?_
        refine v_go rfl ?_
        rw [ix2]
        refine v_sd rfl i1 ?_
        rw [c1, hs _ (by omega)]
        refine v_go rfl ?_
        rw [ix3]
        refine v_sd rfl i2 ?_
        rw [c2, hs _ (by omega)]
        refine v_ca rfl ?_
        refine c_isAct (fun z => ?_) (fun z => ?_)
        · have ih := ih (p + 1) (by omega) (fun p' hp' => by
            by_cases e : p' = p
            · rw [e]
              exact z
            · exact hp p' (by omega))
          rw [← nI_1] at ih
          refine v_go rfl ?_
          refine v_bT rfl (by decide) ?_
          exact v_run 2 rfl ih
        · refine v_go rfl ?_
          refine v_bF rfl (by decide) ?_
          exact v_go rfl (v_rt rfl (Or.inl rfl) (h0 (fun y => z (y p (by omega)))))
    exact key m 0 (by omega) (fun p hp => absurd hp (by omega))
