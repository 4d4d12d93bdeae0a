/-! ===== texts: the class's reader ===== -/
def atb (g : Nat → Int32) (n p : Nat) (c : Int32) : Bool := decide (p < n ∧ g p = c)
def dgb (g : Nat → Int32) (n p lo hi : Nat) : Bool := decide (p < n ∧ (48 : Int) + lo ≤ (g p).toInt ∧ (g p).toInt ≤ 48 + hi)
def kdb (g : Nat → Int32) (n p : Nat) : Bool := decide (p < n ∧ (g p = 112 ∨ g p = 109 ∨ g p = 99))
def dgv (c : Int32) : Nat := (c.toInt - 48).toNat
def kdv (c : Int32) : Nat := if c = 112 then 0 else if c = 109 then 1 else 2
theorem dgv_eq {c : Int32} {lo hi : Nat} (h1 : (48 : Int) + lo ≤ c.toInt) (h2 : c.toInt ≤ 48 + hi) : c = nI (48 + dgv c) ∧ lo ≤ dgv c ∧ dgv c ≤ hi := by
  have h3 := Int32.toInt_lt c
  unfold dgv
  refine ⟨?_, by omega, by omega⟩
  apply Int32.toInt_inj.mp
  rw [nI_toInt (by omega)]
  omega
def rdr (g : Nat → Int32) (n p : Nat) (D : m_D) : Prop := D 21 1 = nI n ∧ D 21 2 = nI p ∧ ∀ j, j < n → D 22 j = g j
theorem rdr_up {g : Nat → Int32} {n p q : Nat} {D : m_D} (h : rdr g n p D) : rdr g n q (m_up D 21 2 (nI q)) := ⟨h.1, m_up_s, h.2.2⟩
theorem c_isAt {L d n p : Nat} {g : Nat → Int32} {c : Int32} {D : m_D} {Q : m_K} (hr : rdr g n p D) (hn : n ≤ 60) (hp : p ≤ n) (h1 : atb g n p c = true → Q (some (.int 1)) D) (h0 : atb g n p c = false → Q (some (.int 0)) D) : m_call L (d + 1) 26 [.ref 21, .int c] D Q := by
  obtain ⟨r1, r2, r3⟩ := hr
  refine v_in (tb' := t_X3_isAt) (rk' := 2) rfl rfl rfl ?_
  refine v_go rfl ?_
  rw [r1, r2]
  by_cases hpn : p < n
  · refine v_bF rfl (nI_ge hpn (by omega)) ?_
    refine v_go rfl ?_
    rw [r2]
    refine v_sd rfl (vp_in_nI (by omega) (by omega)) ?_
    rw [nI_clamp (by omega), r3 p hpn]
    refine v_go rfl ?_
    by_cases e : g p = c
    · refine v_bF rfl (fun z => z e) ?_
      exact v_go rfl (v_rt rfl (Or.inr rfl) (h1 (decide_eq_true ⟨hpn, e⟩)))
    · refine v_bT rfl e ?_
      exact v_go rfl (v_rt rfl (Or.inl rfl) (h0 (decide_eq_false (fun z => e z.2))))
  · refine v_bT rfl (nI_le (by omega) (by omega)) ?_
    exact v_go rfl (v_rt rfl (Or.inl rfl) (h0 (decide_eq_false (fun z => hpn z.1))))
theorem c_takes {L d n p : Nat} {g : Nat → Int32} {c : Int32} {D : m_D} {Q : m_K} (hr : rdr g n p D) (hn : n ≤ 60) (hp : p ≤ n) (h1 : atb g n p c = true → ∀ D', m_fr [21] D D' → rdr g n (p + 1) D' → Q (some (.int 1)) D') (h0 : atb g n p c = false → ∀ D', m_fr [21] D D' → rdr g n p D' → Q (some (.int 0)) D') : m_call L (d + 2) 27 [.ref 21, .int c] D Q := by
  have hf0 : m_fr [21] D D := m_fr.refl _ _
  refine v_in (tb' := t_X3_takes) (rk' := 2) rfl rfl rfl ?_
  refine v_go rfl ?_
  refine v_ca rfl ?_
  refine c_isAt hr hn hp (fun z => ?_) (fun z => ?_)
  · refine v_go rfl ?_
    rw [hr.2.1]
    refine v_bF rfl (by decide) ?_
    refine v_go rfl ?_
    rw [nI_1]
    exact v_rt rfl (Or.inr rfl) (h1 z _ (hf0.up (by simp)) (rdr_up hr))
  · refine v_go rfl ?_
    rw [hr.2.1]
    refine v_bT rfl rfl ?_
    refine v_go rfl ?_
    rw [Int32.add_zero]
    exact v_rt rfl (Or.inl rfl) (h0 z _ (hf0.up (by simp)) (rdr_up hr))
theorem c_digit {L d n p lo hi : Nat} {g : Nat → Int32} {D : m_D} {Q : m_K} (hr : rdr g n p D) (hn : n ≤ 60) (hp : p ≤ n) (hlo : lo ≤ 9) (hhi : hi ≤ 9) (h1 : dgb g n p lo hi = true → ∀ D', m_fr [21] D D' → rdr g n (p + 1) D' → Q (some (.int (nI (dgv (g p))))) D') (h0 : dgb g n p lo hi = false → Q (some (.int (-9))) D) : m_call L (d + 1) 29 [.ref 21, .int (nI lo), .int (nI hi)] D Q := by
  have hf0 : m_fr [21] D D := m_fr.refl _ _
  have e1 : (48 : Int32) + nI lo = nI (48 + lo) := nI_add 48 lo
  have e2 : (48 : Int32) + nI hi = nI (48 + hi) := nI_add 48 hi
  have r1 := hr.1
  have r2 := hr.2.1
  have r3 := hr.2.2
  refine v_in (tb' := t_X3_takenDigit) (rk' := 1) rfl rfl rfl ?_
  refine v_go rfl ?_
  rw [r1, r2]
  by_cases hpn : p < n
  · refine v_bF rfl (nI_ge hpn (by omega)) ?_
    refine v_go rfl ?_
    rw [r2]
    refine v_sd rfl (vp_in_nI (by omega) (by omega)) ?_
    rw [nI_clamp (by omega), r3 p hpn]
    refine v_go rfl ?_
    rw [e1]
    have l1 : g p < nI (48 + lo) ↔ (g p).toInt < 48 + lo := by
      rw [Int32.lt_iff_toInt_lt, nI_toInt (by omega)]
      omega
    have l2 : g p ≤ nI (48 + hi) ↔ (g p).toInt ≤ 48 + hi := by
      rw [Int32.le_iff_toInt_le, nI_toInt (by omega)]
      omega
    refine v_br rfl (fun z => ?_) (fun z => ?_)
    · have z := l1.mp z
      exact v_go rfl (v_rt rfl trivial (h0 (decide_eq_false (fun y => by omega))))
    · have z : ¬ (g p).toInt < 48 + lo := fun y => z (l1.mpr y)
      refine v_go rfl ?_
      rw [r2]
      refine v_sd rfl (vp_in_nI (by omega) (by omega)) ?_
      rw [nI_clamp (by omega), r3 p hpn]
      refine v_go rfl ?_
      rw [e2]
      refine v_br rfl (fun z2 => ?_) (fun z2 => ?_)
      · have z2 := l2.mp z2
        obtain ⟨ev, hv1, hv2⟩ := dgv_eq (c := g p) (lo := lo) (hi := hi) (by omega) z2
        have es : g p - 48 = nI (dgv (g p)) := by
          rw [ev, show (48 : Int32) = nI 48 from rfl, pk_sub (by omega), ← ev, show 48 + dgv (g p) - 48 = dgv (g p) by omega]
        refine v_go rfl ?_
        rw [r2, nI_1]
        have hp21 : m_up D 21 2 (nI (p + 1)) 21 2 = nI (p + 1) := m_up_s
        rw [hp21, nI_pred]
        refine v_sd rfl (vp_in_nI (by omega) (by omega)) ?_
        rw [nI_clamp (by omega)]
        have e22 : m_up D 21 2 (nI (p + 1)) 22 p = g p := r3 p hpn
        rw [e22]
        refine v_go rfl ?_
        rw [es]
        exact v_rt rfl trivial (h1 (decide_eq_true ⟨hpn, by omega, z2⟩) _ (hf0.up (by simp)) (rdr_up hr))
      · have z2 : ¬ (g p).toInt ≤ 48 + hi := fun y => z2 (l2.mpr y)
        exact v_go rfl (v_rt rfl trivial (h0 (decide_eq_false (fun y => z2 y.2.2))))
  · refine v_bT rfl (nI_le (by omega) (by omega)) ?_
    exact v_go rfl (v_rt rfl trivial (h0 (decide_eq_false (fun z => hpn z.1))))
theorem atb_t {g : Nat → Int32} {n p : Nat} {c : Int32} (h : atb g n p c = true) : p < n ∧ g p = c := of_decide_eq_true h
theorem atb_f {g : Nat → Int32} {n p : Nat} {c : Int32} (h : atb g n p c = false) : ¬ (p < n ∧ g p = c) := of_decide_eq_false h
theorem dgb_t {g : Nat → Int32} {n p lo hi : Nat} (h : dgb g n p lo hi = true) : p < n ∧ lo ≤ dgv (g p) ∧ dgv (g p) ≤ hi := by
  have h := of_decide_eq_true h
  obtain ⟨-, q1, q2⟩ := dgv_eq h.2.1 h.2.2
  exact ⟨h.1, q1, q2⟩
theorem c_kind {L d n p : Nat} {g : Nat → Int32} {D : m_D} {Q : m_K} (hr : rdr g n p D) (hn : n ≤ 60) (hp : p ≤ n) (h1 : kdb g n p = true → ∀ D', m_fr [21] D D' → rdr g n (p + 1) D' → Q (some (.int (nI (kdv (g p))))) D') (h0 : kdb g n p = false → ∀ D', m_fr [21] D D' → rdr g n p D' → Q (some (.int (-9))) D') : m_call L (d + 3) 28 [.ref 21] D Q := by
  refine v_in (tb' := t_X3_takenKind) (rk' := 1) rfl rfl rfl ?_
  refine v_go rfl ?_
  refine v_ca rfl ?_
  refine c_takes hr hn hp (fun z D1 hf1 hr1 => ?_) (fun z D1 hf1 hr1 => ?_)
  · obtain ⟨hpn, e⟩ := atb_t z
    have h1 := h1 (decide_eq_true ⟨hpn, Or.inl e⟩) D1 hf1 hr1
    unfold kdv at h1
    rw [if_pos e] at h1
    refine v_go rfl ?_
    refine v_bF rfl (by decide) ?_
    exact v_go rfl (v_rt rfl trivial h1)
  · have z := atb_f z
    refine v_go rfl ?_
    refine v_bT rfl rfl ?_
    refine v_go rfl ?_
    refine v_ca rfl ?_
    refine c_takes hr1 hn hp (fun z2 D2 hf2 hr2 => ?_) (fun z2 D2 hf2 hr2 => ?_)
    · obtain ⟨hpn, e⟩ := atb_t z2
      have h1 := h1 (decide_eq_true ⟨hpn, Or.inr (Or.inl e)⟩) D2 (hf1.trans hf2) hr2
      unfold kdv at h1
      rw [if_neg (fun y => z ⟨hpn, y⟩), if_pos e] at h1
      refine v_go rfl ?_
      refine v_bF rfl (by decide) ?_
      exact v_go rfl (v_rt rfl trivial h1)
    · have z2 := atb_f z2
      refine v_go rfl ?_
      refine v_bT rfl rfl ?_
      refine v_go rfl ?_
      refine v_ca rfl ?_
      refine c_takes hr2 hn hp (fun z3 D3 hf3 hr3 => ?_) (fun z3 D3 hf3 hr3 => ?_)
      · obtain ⟨hpn, e⟩ := atb_t z3
        have h1 := h1 (decide_eq_true ⟨hpn, Or.inr (Or.inr e)⟩) D3 ((hf1.trans hf2).trans hf3) hr3
        unfold kdv at h1
        rw [if_neg (fun y => z ⟨hpn, y⟩), if_neg (fun y => z2 ⟨hpn, y⟩)] at h1
        refine v_go rfl ?_
        refine v_bF rfl (by decide) ?_
        exact v_go rfl (v_rt rfl trivial h1)
      · have z3 := atb_f z3
        have h0 := h0 (decide_eq_false (fun y => y.2.elim (fun q => z ⟨y.1, q⟩) (fun q => q.elim (fun q => z2 ⟨y.1, q⟩) (fun q => z3 ⟨y.1, q⟩)))) D3 ((hf1.trans hf2).trans hf3) hr3
        refine v_go rfl ?_
        refine v_bT rfl rfl ?_
        exact v_go rfl (v_rt rfl trivial h0)
def f_line (g : Nat → Int32) (n p : Nat) : Option Nat := if atb g n p 44 = false then some p else if dgb g n (p + 1) 0 9 = false then some (p + 1) else if dgb g n (p + 2) 0 3 = false then some (p + 2) else none
def f_cri (g : Nat → Int32) (n k p : Nat) : Option Nat := if atb g n p 59 = false then some p else if kdb g n (p + 1) = false then some (p + 1) else if dgb g n (p + 2) 1 3 = false then some (p + 2) else if dgb g n (p + 3) 0 (k - 1) = false then some (p + 3) else none
theorem f_line_none {g : Nat → Int32} {n p : Nat} (h : f_line g n p = none) : atb g n p 44 = true ∧ dgb g n (p + 1) 0 9 = true ∧ dgb g n (p + 2) 0 3 = true := by
  unfold f_line at h
  cases e1 : atb g n p 44 with
  | false =>
    rw [e1, if_pos rfl] at h
    cases h
  | true =>
    cases e2 : dgb g n (p + 1) 0 9 with
    | false =>
      rw [e1, if_neg (by decide), e2, if_pos rfl] at h
      cases h
    | true =>
      cases e3 : dgb g n (p + 2) 0 3 with
      | false =>
        rw [e1, if_neg (by decide), e2, if_neg (by decide), e3, if_pos rfl] at h
        cases h
      | true => exact ⟨rfl, rfl, rfl⟩
theorem f_cri_none {g : Nat → Int32} {n k p : Nat} (h : f_cri g n k p = none) : atb g n p 59 = true ∧ kdb g n (p + 1) = true ∧ dgb g n (p + 2) 1 3 = true ∧ dgb g n (p + 3) 0 (k - 1) = true := by
  unfold f_cri at h
  cases e1 : atb g n p 59 with
  | false =>
    rw [e1, if_pos rfl] at h
    cases h
  | true =>
    cases e2 : kdb g n (p + 1) with
    | false =>
      rw [e1, if_neg (by decide), e2, if_pos rfl] at h
      cases h
    | true =>
      cases e3 : dgb g n (p + 2) 1 3 with
      | false =>
        rw [e1, if_neg (by decide), e2, if_neg (by decide), e3, if_pos rfl] at h
        cases h
      | true =>
        cases e4 : dgb g n (p + 3) 0 (k - 1) with
        | false =>
          rw [e1, if_neg (by decide), e2, if_neg (by decide), e3, if_neg (by decide), e4, if_pos rfl] at h
          cases h
        | true => exact ⟨rfl, rfl, rfl, rfl⟩
theorem c_takesLine {L d n p l : Nat} {g : Nat → Int32} {D : m_D} {Q : m_K} (hr : rdr g n p D) (hn : n ≤ 60) (hp : p ≤ n) (hl : l < 6) (h1 : f_line g n p = none → ∀ D', m_fr [21] D D' → rdr g n (p + 3) D' → Q (some (.int 1)) (m_up (m_up (m_up D' 9 l (nI (dgv (g (p + 1))))) 10 l (nI (dgv (g (p + 2))))) 8 0 (nI (l + 1)))) (h0 : ∀ q, f_line g n p = some q → q ≤ n → ∀ D', m_fr [21] D D' → rdr g n q D' → Q (some (.int 0)) D') : m_call L (d + 3) 24 [.ref 21, .ref 8, .int (nI l)] D Q := by
  have hin : vp_in (nI l) 6 := vp_in_nI (by omega) (by omega)
  have hcl : (nI l).toNatClampNeg = l := nI_clamp (by omega)
  unfold f_line at h1 h0
  refine v_in (tb' := t_X3_takesLine) (rk' := 2) rfl rfl rfl ?_
  refine v_go rfl ?_
  refine v_ca rfl ?_
  refine c_takes hr hn hp (fun z D1 hf1 hr1 => ?_) (fun z D1 hf1 hr1 => ?_)
  · have zp := (atb_t z).1
    rw [z, if_neg (by decide)] at h1 h0
    refine v_go rfl ?_
    refine v_bT rfl (by decide) ?_
    refine v_go rfl ?_
    refine v_ca rfl ?_
    refine c_digit (lo := 0) (hi := 9) hr1 hn (by omega) (by omega) (by omega) (fun z2 D2 hf2 hr2 => ?_) (fun z2 => ?_)
    · have zp2 := dgb_t z2
      rw [z2, if_neg (by decide)] at h1 h0
      refine v_go rfl ?_
      refine v_bT rfl (nI_m9 (by omega)) ?_
      refine v_go rfl ?_
      refine v_ca rfl ?_
      refine c_digit (lo := 0) (hi := 3) hr2 hn (by omega) (by omega) (by omega) (fun z3 D3 hf3 hr3 => ?_) (fun z3 => ?_)
      · have zp3 := dgb_t z3
        have z3' : dgb g n (p + 2) 0 3 = true := z3
        rw [z3', if_neg (by decide)] at h1
        have h1 := h1 rfl D3 ((hf1.trans hf2).trans hf3) hr3
        refine v_go rfl ?_
        refine v_bT rfl (nI_m9 (by omega)) ?_
        refine v_go rfl ?_
        refine v_sd rfl hin ?_
        rw [hcl]
        refine v_go rfl ?_
        refine v_sd rfl hin ?_
        rw [hcl]
        refine v_go rfl ?_
        rw [nI_1]
        exact v_rt rfl (Or.inr rfl) h1
      · have z3' : dgb g n (p + 2) 0 3 = false := z3
        rw [z3', if_pos rfl] at h0
        refine v_go rfl ?_
        refine v_bF rfl (fun z => z rfl) ?_
        exact v_go rfl (v_rt rfl (Or.inl rfl) (h0 _ rfl (by omega) D2 (hf1.trans hf2) hr2))
    · rw [z2, if_pos rfl] at h0
      refine v_go rfl ?_
      refine v_bF rfl (fun z => z rfl) ?_
      refine v_go rfl ?_
      refine v_bF rfl (fun z => z rfl) ?_
      exact v_go rfl (v_rt rfl (Or.inl rfl) (h0 _ rfl (by omega) D1 hf1 hr1))
  · rw [z, if_pos rfl] at h0
    refine v_go rfl ?_
    refine v_bF rfl (by decide) ?_
    exact v_go rfl (v_rt rfl (Or.inl rfl) (h0 _ rfl hp D1 hf1 hr1))
theorem kdv_le (c : Int32) : kdv c ≤ 2 := by
  unfold kdv
  split
  · omega
  · split <;> omega
theorem c_takesCrier {L d n p c k : Nat} {g : Nat → Int32} {D : m_D} {Q : m_K} (hr : rdr g n p D) (hn : n ≤ 60) (hp : p ≤ n) (hc : c < 3) (hk : 1 ≤ k ∧ k ≤ 6) (hk8 : D 8 0 = nI k) (h1 : f_cri g n k p = none → ∀ D', m_fr [21] D D' → rdr g n (p + 4) D' → Q (some (.int 1)) (m_up (m_up (m_up (m_up D' 11 c (nI (kdv (g (p + 1))))) 12 c (nI (dgv (g (p + 2))))) 13 c (nI (dgv (g (p + 3))))) 8 1 (nI (c + 1)))) (h0 : ∀ q, f_cri g n k p = some q → q ≤ n → ∀ D', m_fr [21] D D' → rdr g n q D' → Q (some (.int 0)) D') : m_call L (d + 4) 25 [.ref 21, .ref 8, .int (nI c)] D Q := by
  have hin : vp_in (nI c) 3 := vp_in_nI (by omega) (by omega)
  have hcl : (nI c).toNatClampNeg = c := nI_clamp (by omega)
  unfold f_cri at h1 h0
  refine v_in (tb' := t_X3_takesCrier) (rk' := 2) rfl rfl rfl ?_
  refine v_go rfl ?_
  refine v_ca rfl ?_
  refine c_takes hr hn hp (fun z D1 hf1 hr1 => ?_) (fun z D1 hf1 hr1 => ?_)
  · have zp := (atb_t z).1
    rw [z, if_neg (by decide)] at h1 h0
    refine v_go rfl ?_
    refine v_bT rfl (by decide) ?_
    refine v_go rfl ?_
    refine v_ca rfl ?_
    refine c_kind hr1 hn (by omega) (fun z2 D2 hf2 hr2 => ?_) (fun z2 D2 hf2 hr2 => ?_)
    · have zp2 := (of_decide_eq_true z2).1
      have kl := kdv_le (g (p + 1))
      rw [z2, if_neg (by decide)] at h1 h0
      refine v_go rfl ?_
      refine v_bT rfl (nI_m9 (by omega)) ?_
      refine v_go rfl ?_
      refine v_ca rfl ?_
      refine c_digit (lo := 1) (hi := 3) hr2 hn (by omega) (by omega) (by omega) (fun z3 D3 hf3 hr3 => ?_) (fun z3 => ?_)
      · have zp3 := dgb_t z3
        have z3' : dgb g n (p + 2) 1 3 = true := z3
        rw [z3', if_neg (by decide)] at h1 h0
        have hfc := (hf1.trans hf2).trans hf3
        have k8 : D3 8 0 = nI k := by rw [hfc 8 (by simp)]; exact hk8
        refine v_go rfl ?_
        refine v_bT rfl (nI_m9 (by omega)) ?_
        refine v_go rfl ?_
        rw [k8, nI_p (by omega)]
        refine v_ca rfl ?_
        refine c_digit (lo := 0) (hi := k - 1) hr3 hn (by omega) (by omega) (by omega) (fun z4 D4 hf4 hr4 => ?_) (fun z4 => ?_)
        · have zp4 := dgb_t z4
          have z4' : dgb g n (p + 3) 0 (k - 1) = true := z4
          rw [z4', if_neg (by decide)] at h1
          have h1 := h1 rfl D4 (hfc.trans hf4) hr4
          refine v_go rfl ?_
          refine v_bT rfl (nI_m9 (by omega)) ?_
          refine v_go rfl ?_
          refine v_sd rfl hin ?_
          rw [hcl]
          refine v_go rfl ?_
          refine v_sd rfl hin ?_
          rw [hcl]
          refine v_go rfl ?_
          refine v_sd rfl hin ?_
          rw [hcl]
          refine v_go rfl ?_
          rw [nI_1]
          exact v_rt rfl (Or.inr rfl) h1
        · have z4' : dgb g n (p + 3) 0 (k - 1) = false := z4
          rw [z4', if_pos rfl] at h0
          refine v_go rfl ?_
          refine v_bF rfl (fun z => z rfl) ?_
          exact v_go rfl (v_rt rfl (Or.inl rfl) (h0 _ rfl (by omega) D3 hfc hr3))
      · have z3' : dgb g n (p + 2) 1 3 = false := z3
        rw [z3', if_pos rfl] at h0
        refine v_go rfl ?_
        refine v_bF rfl (fun z => z rfl) ?_
        refine v_go rfl ?_
        refine v_bF rfl (fun z => z rfl) ?_
        exact v_go rfl (v_rt rfl (Or.inl rfl) (h0 _ rfl (by omega) D2 (hf1.trans hf2) hr2))
    · rw [z2, if_pos rfl] at h0
      refine v_go rfl ?_
      refine v_bF rfl (fun z => z rfl) ?_
      refine v_go rfl ?_
      refine v_bF rfl (fun z => z rfl) ?_
      refine v_go rfl ?_
      refine v_bF rfl (fun z => z rfl) ?_
      exact v_go rfl (v_rt rfl (Or.inl rfl) (h0 _ rfl (by omega) D2 (hf1.trans hf2) hr2))
  · rw [z, if_pos rfl] at h0
    refine v_go rfl ?_
    refine v_bF rfl (by decide) ?_
    exact v_go rfl (v_rt rfl (Or.inl rfl) (h0 _ rfl hp D1 hf1 hr1))
