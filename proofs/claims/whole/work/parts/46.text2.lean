/-! ===== a whole text ===== -/
def q_lines (g : Nat → Int32) (n : Nat) : Nat → Nat → Nat ⊕ Nat
  | 0, l => .inr l
  | m + 1, l => if l = 0 ∨ atb g n (1 + 3 * l) 44 = true then (match f_line g n (1 + 3 * l) with
    | some p => .inl p
    | none => q_lines g n m (l + 1)) else .inr l
def q_cri (g : Nat → Int32) (n k : Nat) : Nat → Nat → Nat ⊕ Nat
  | 0, c => if 1 + 3 * k + 4 * c < n then .inl (1 + 3 * k + 4 * c) else .inr c
  | m + 1, c => if c = 0 ∨ 1 + 3 * k + 4 * c < n then (match f_cri g n k (1 + 3 * k + 4 * c) with
    | some p => .inl p
    | none => q_cri g n k m (c + 1)) else .inr c
def q_text (g : Nat → Int32) (n : Nat) : Nat ⊕ (Nat × Nat) := if atb g n 0 115 = false then .inl 0 else match q_lines g n 6 0 with
  | .inl p => .inl p
  | .inr k => match q_cri g n k 3 0 with
    | .inl p => .inl p
    | .inr c => .inr (k, c)
def qT (g : Nat → Int32) (k i j : Nat) : Nat := match i with
  | 0 => dgv (g (1 + 3 * j + 1))
  | 1 => dgv (g (1 + 3 * j + 2))
  | 2 => kdv (g (1 + 3 * k + 4 * j + 1))
  | 3 => dgv (g (1 + 3 * k + 4 * j + 2))
  | _ => dgv (g (1 + 3 * k + 4 * j + 3))
def qS (g : Nat → Int32) (k c : Nat) : SH := (k, c, qT g k, fun _ _ => false)
theorem ql_s {g : Nat → Int32} {n m l p : Nat} (h : l = 0 ∨ atb g n (1 + 3 * l) 44 = true) (hf : f_line g n (1 + 3 * l) = some p) : q_lines g n (m + 1) l = .inl p := by
  show ((if l = 0 ∨ atb g n (1 + 3 * l) 44 = true then (match f_line g n (1 + 3 * l) with
    | some p => Sum.inl p
    | none => q_lines g n m (l + 1)) else Sum.inr l) : Nat ⊕ Nat) = _
  rw [if_pos h, hf]
theorem ql_n {g : Nat → Int32} {n m l : Nat} (h : l = 0 ∨ atb g n (1 + 3 * l) 44 = true) (hf : f_line g n (1 + 3 * l) = none) : q_lines g n (m + 1) l = q_lines g n m (l + 1) := by
  show ((if l = 0 ∨ atb g n (1 + 3 * l) 44 = true then (match f_line g n (1 + 3 * l) with
    | some p => Sum.inl p
    | none => q_lines g n m (l + 1)) else Sum.inr l) : Nat ⊕ Nat) = _
  rw [if_pos h, hf]
theorem ql_o {g : Nat → Int32} {n m l : Nat} (h : ¬ (l = 0 ∨ atb g n (1 + 3 * l) 44 = true)) : q_lines g n (m + 1) l = .inr l := by
  show ((if l = 0 ∨ atb g n (1 + 3 * l) 44 = true then (match f_line g n (1 + 3 * l) with
    | some p => Sum.inl p
    | none => q_lines g n m (l + 1)) else Sum.inr l) : Nat ⊕ Nat) = _
  rw [if_neg h]
theorem qc_s {g : Nat → Int32} {n k m c p : Nat} (h : c = 0 ∨ 1 + 3 * k + 4 * c < n) (hf : f_cri g n k (1 + 3 * k + 4 * c) = some p) : q_cri g n k (m + 1) c = .inl p := by
  show ((if c = 0 ∨ 1 + 3 * k + 4 * c < n then (match f_cri g n k (1 + 3 * k + 4 * c) with
    | some p => Sum.inl p
    | none => q_cri g n k m (c + 1)) else Sum.inr c) : Nat ⊕ Nat) = _
  rw [if_pos h, hf]
theorem qc_n {g : Nat → Int32} {n k m c : Nat} (h : c = 0 ∨ 1 + 3 * k + 4 * c < n) (hf : f_cri g n k (1 + 3 * k + 4 * c) = none) : q_cri g n k (m + 1) c = q_cri g n k m (c + 1) := by
  show ((if c = 0 ∨ 1 + 3 * k + 4 * c < n then (match f_cri g n k (1 + 3 * k + 4 * c) with
    | some p => Sum.inl p
    | none => q_cri g n k m (c + 1)) else Sum.inr c) : Nat ⊕ Nat) = _
  rw [if_pos h, hf]
theorem qc_o {g : Nat → Int32} {n k m c : Nat} (h : ¬ (c = 0 ∨ 1 + 3 * k + 4 * c < n)) : q_cri g n k (m + 1) c = .inr c := by
  show ((if c = 0 ∨ 1 + 3 * k + 4 * c < n then (match f_cri g n k (1 + 3 * k + 4 * c) with
    | some p => Sum.inl p
    | none => q_cri g n k m (c + 1)) else Sum.inr c) : Nat ⊕ Nat) = _
  rw [if_neg h]
theorem qt_0 {g : Nat → Int32} {n : Nat} (h : atb g n 0 115 = false) : q_text g n = .inl 0 := by
  unfold q_text
  rw [if_pos h]
theorem qt_l {g : Nat → Int32} {n p : Nat} (h : atb g n 0 115 = true) (h2 : q_lines g n 6 0 = .inl p) : q_text g n = .inl p := by
  unfold q_text
  rw [h, if_neg (by decide), h2]
theorem qt_c {g : Nat → Int32} {n k p : Nat} (h : atb g n 0 115 = true) (h2 : q_lines g n 6 0 = .inr k) (h3 : q_cri g n k 3 0 = .inl p) : q_text g n = .inl p := by
  unfold q_text
  rw [h, if_neg (by decide), h2]
  dsimp only
  rw [h3]
theorem qt_k {g : Nat → Int32} {n k c : Nat} (h : atb g n 0 115 = true) (h2 : q_lines g n 6 0 = .inr k) (h3 : q_cri g n k 3 0 = .inr c) : q_text g n = .inr (k, c) := by
  unfold q_text
  rw [h, if_neg (by decide), h2]
  dsimp only
  rw [h3]
/-- where all that was asked is so -/
def goodL (g : Nat → Int32) (n l : Nat) : Prop := ∀ j, j < l → f_line g n (1 + 3 * j) = none
def goodC (g : Nat → Int32) (n k c : Nat) : Prop := ∀ j, j < c → f_cri g n k (1 + 3 * k + 4 * j) = none
theorem goodL_up {g : Nat → Int32} {n l : Nat} (h : goodL g n l) (h2 : f_line g n (1 + 3 * l) = none) : goodL g n (l + 1) := fun j hj => by
  by_cases e : j = l
  · rw [e]
    exact h2
  · exact h j (by omega)
theorem goodC_up {g : Nat → Int32} {n k c : Nat} (h : goodC g n k c) (h2 : f_cri g n k (1 + 3 * k + 4 * c) = none) : goodC g n k (c + 1) := fun j hj => by
  by_cases e : j = c
  · rw [e]
    exact h2
  · exact h j (by omega)
theorem goodL_le {g : Nat → Int32} {n l : Nat} (h : goodL g n l) (hl : l ≠ 0) : 1 + 3 * l ≤ n := by
  obtain ⟨-, -, h3⟩ := f_line_none (h (l - 1) (by omega))
  have := (dgb_t h3).1
  omega
theorem goodC_le {g : Nat → Int32} {n k c : Nat} (h : goodC g n k c) (hc : c ≠ 0) : 1 + 3 * k + 4 * c ≤ n := by
  obtain ⟨-, -, -, h4⟩ := f_cri_none (h (c - 1) (by omega))
  have := (dgb_t h4).1
  omega
theorem okS_q {g : Nat → Int32} {n k c : Nat} (hL : goodL g n k) (hC : goodC g n k c) (hk : 1 ≤ k ∧ k ≤ 6) (hc : c ≤ 3) : okS (qS g k c) := by
  refine ⟨hk.2, hc, fun l hl => ?_, fun j hj => ?_⟩
  · obtain ⟨-, h2, h3⟩ := f_line_none (hL l hl)
    have q2 := dgb_t h2
    have q3 := dgb_t h3
    have e0 : (qS g k c).2.2.1 0 l = dgv (g (1 + 3 * l + 1)) := rfl
    have e1 : (qS g k c).2.2.1 1 l = dgv (g (1 + 3 * l + 2)) := rfl
    rw [e0, e1]
    omega
  · obtain ⟨-, -, h3, h4⟩ := f_cri_none (hC j hj)
    have q3 := dgb_t h3
    have q4 := dgb_t h4
    have e2 : (qS g k c).2.2.1 2 j = kdv (g (1 + 3 * k + 4 * j + 1)) := rfl
    have e3 : (qS g k c).2.2.1 3 j = dgv (g (1 + 3 * k + 4 * j + 2)) := rfl
    have e4 : (qS g k c).2.2.1 4 j = dgv (g (1 + 3 * k + 4 * j + 3)) := rfl
    have e5 : (qS g k c).1 = k := rfl
    have := kdv_le (g (1 + 3 * k + 4 * j + 1))
    rw [e2, e3, e4, e5]
    omega
abbrev z_TR : List Nat := [8, 9, 10, 11, 12, 13, 14, 21, 22]
theorem tr21 {D D' : m_D} (hf : m_fr [21] D D') : m_fr z_TR D D' := hf.sub (by simp)
def rowL (g : Nat → Int32) (l : Nat) (D : m_D) : Prop := ∀ j, j < l → D 9 j = nI (dgv (g (1 + 3 * j + 1))) ∧ D 10 j = nI (dgv (g (1 + 3 * j + 2)))
def rowC (g : Nat → Int32) (k c : Nat) (D : m_D) : Prop := ∀ j, j < c → D 11 j = nI (kdv (g (1 + 3 * k + 4 * j + 1))) ∧ D 12 j = nI (dgv (g (1 + 3 * k + 4 * j + 2))) ∧ D 13 j = nI (dgv (g (1 + 3 * k + 4 * j + 3)))
theorem c_isText {L d n : Nat} {g : Nat → Int32} {D : m_D} {Q : m_K} (hr : rdr g n 0 D) (hn : n ≤ 60) (h80 : D 8 0 = nI 0) (h81 : D 8 1 = nI 0) (h14 : ∀ t, t < 6 → D 14 t = 0) (h0 : ∀ p D', q_text g n = .inl p → m_fr z_TR D D' → p ≤ 60 → D' 21 2 = nI p → Q (some (.int 0)) D') (h1 : ∀ k c D', q_text g n = .inr (k, c) → m_fr z_TR D D' → 1 ≤ k ∧ 1 ≤ c → okS (qS g k c) → relC 8 D' (qS g k c) → Q (some (.int 1)) D') : m_call L (d + 5) 23 [.ref 21, .ref 8] D Q := by
  have e14 : ∀ (D1 : m_D), D1 14 = D 14 → ∀ t, t < 6 → D1 14 t = nI 0 := fun D1 e t ht => by
    rw [e]
    exact h14 t ht
  have kc : atb g n 0 115 = true → ∀ (k : Nat), 1 ≤ k ∧ k ≤ 6 → goodL g n k → q_lines g n 6 0 = .inr k → ∀ (m c : Nat) (D1 : m_D), c + m = 3 → q_cri g n k 3 0 = q_cri g n k m c → goodC g n k c → m_fr z_TR D D1 → D1 14 = D 14 → D1 8 0 = nI k → D1 8 1 = nI c → rowL g k D1 → rowC g k c D1 → rdr g n (1 + 3 * k + 4 * c) D1 → m_V L (d + 4) Q t_X3_isText 2 (51, [some (.ref 21), some (.ref 8), some (.int (nI c))], [], D1) := by
    intro hat k hk hgL hql m
    have hkn := goodL_le hgL (by omega)
    have fin : ∀ (c : Nat) (D1 : m_D), c ≠ 0 → c ≤ 3 → q_cri g n k 3 0 = .inr c → ¬ 1 + 3 * k + 4 * c < n → goodC g n k c → m_fr z_TR D D1 → D1 14 = D 14 → D1 8 0 = nI k → D1 8 1 = nI c → rowL g k D1 → rowC g k c D1 → rdr g n (1 + 3 * k + 4 * c) D1 → m_V L (d + 4) Q t_X3_isText 2 (88, [some (.ref 21), some (.ref 8), some (.int (nI c))], [], D1) := by
      intro c D1 hc0 hc3 hqc hnl hgC hf h14' h80' h81' hrL hrC hr1
      have hcn := goodC_le hgC hc0
      refine v_go rfl ?_
      rw [hr1.1, hr1.2.1]
      refine v_bF rfl (fun z => z (congrArg nI (by omega))) ?_
      refine v_go rfl (v_rt rfl (Or.inr rfl) (h1 k c D1 (qt_k hat hql hqc) hf ⟨hk.1, by omega⟩ (okS_q hgL hgC hk hc3) ⟨h80', h81', hrL, hrC, fun t ht => ?_⟩))
      have e0 : b_sum (fun f => (qS g k c).2.2.2 f t) 4 = 0 := b_sum_0 4
      rw [e0]
      exact e14 D1 h14' t ht
    induction m with
    | zero =>
      intro c D1 hm hq hgC hf h14' h80' h81' hrL hrC hr1
      have hm : c = 3 := by omega
      subst hm
      refine v_go rfl ?_
      refine v_bT rfl (Int32.le_refl _) ?_
      by_cases hlt : 1 + 3 * k + 4 * 3 < n
      · have hq : q_cri g n k 3 0 = .inl (1 + 3 * k + 4 * 3) := by
          rw [hq]
          exact if_pos hlt
        refine v_go rfl ?_
        rw [hr1.1, hr1.2.1]
        refine v_bT rfl (fun z => ?_) ?_
        · have := (nI_eq (by omega) (by omega)).mp z
          omega
        · exact v_go rfl (v_rt rfl (Or.inl rfl) (h0 _ D1 (qt_c hat hql hq) hf (by omega) hr1.2.1))
      · have hq : q_cri g n k 3 0 = .inr 3 := by
          rw [hq]
          exact if_neg hlt
        exact fin 3 D1 (by omega) (by omega) hq hlt hgC hf h14' h80' h81' hrL hrC hr1
    | succ m ih =>
      intro c D1 hm hq hgC hf h14' h80' h81' hrL hrC hr1
      have step : (c = 0 ∨ 1 + 3 * k + 4 * c < n) → m_V L (d + 4) Q t_X3_isText 2 (71, [some (.ref 21), some (.ref 8), some (.int (nI c))], [], D1) := by
        intro hcond
        refine v_go rfl ?_
        refine v_ca rfl ?_
        refine c_takesCrier hr1 hn (by omega) (by omega) hk h80' (fun z D2 hf2 hr2 => ?_) (fun p z hpn D2 hf2 hr2 => ?_)
        · have e21 : ∀ a, a ≠ 21 → D2 a = D1 a := fun a ha => hf2 a (by simpa using ha)
          have ih := ih (c + 1) (m_up (m_up (m_up (m_up D2 11 c (nI (kdv (g (1 + 3 * k + 4 * c + 1))))) 12 c (nI (dgv (g (1 + 3 * k + 4 * c + 2))))) 13 c (nI (dgv (g (1 + 3 * k + 4 * c + 3))))) 8 1 (nI (c + 1))) (by omega) (by rw [hq]; exact qc_n hcond z) (goodC_up hgC z) (((((hf.trans (tr21 hf2)).up (by simp)).up (by simp)).up (by simp)).up (by simp)) ((e21 14 (by omega)).trans h14') ((congrFun (e21 8 (by omega)) 0).trans h80') m_up_s (fun j hj => by
            have e9 : D2 9 j = D1 9 j := congrFun (e21 9 (by omega)) j
            have e10 : D2 10 j = D1 10 j := congrFun (e21 10 (by omega)) j
            have h := hrL j hj
            exact ⟨e9.trans h.1, e10.trans h.2⟩) (fun j hj => by
            by_cases e : j = c
            · rw [e]
              exact ⟨(pk_us : upd (D2 11) c _ c = _), (pk_us : upd (D2 12) c _ c = _), (pk_us : upd (D2 13) c _ c = _)⟩
            · have h := hrC j (by omega)
              exact ⟨(m_up_n e).trans ((congrFun (e21 11 (by omega)) j).trans h.1), (m_up_n e).trans ((congrFun (e21 12 (by omega)) j).trans h.2.1), (m_up_n e).trans ((congrFun (e21 13 (by omega)) j).trans h.2.2)⟩) hr2
          refine v_go rfl ?_
          refine v_bT rfl (by decide) ?_
          refine v_run 2 rfl ?_
          rw [nI_1]
          exact ih
        · have hq : q_cri g n k 3 0 = .inl p := by rw [hq]; exact qc_s hcond z
          refine v_go rfl ?_
          refine v_bF rfl (by decide) ?_
          exact v_go rfl (v_rt rfl (Or.inl rfl) (h0 p D2 (qt_c hat hql hq) (hf.trans (tr21 hf2)) (by omega) hr2.2.1))
      refine v_go rfl ?_
      refine v_bF rfl (nI_ge (b := 3) (by omega) (by omega)) ?_
      refine v_go rfl ?_
      by_cases hc0 : c = 0
      · subst hc0
        refine v_bT rfl rfl ?_
        exact step (Or.inl rfl)
      · refine v_bF rfl (nI_ne0 (by omega) (by omega)) ?_
        have hcn := goodC_le hgC hc0
        refine v_go rfl ?_
        rw [hr1.1, hr1.2.1]
        by_cases hlt : 1 + 3 * k + 4 * c < n
        · refine v_bF rfl (nI_ge hlt (by omega)) ?_
          exact step (Or.inr hlt)
        · refine v_bT rfl (nI_le (by omega) (by omega)) ?_
          exact fin c D1 hc0 (by omega) (by rw [hq]; exact qc_o (fun z => z.elim hc0 hlt)) hlt hgC hf h14' h80' h81' hrL hrC hr1
  have kl : atb g n 0 115 = true → ∀ (m l : Nat) (D1 : m_D), l + m = 6 → q_lines g n 6 0 = q_lines g n m l → goodL g n l → m_fr z_TR D D1 → D1 14 = D 14 → D1 8 0 = nI l → D1 8 1 = nI 0 → rowL g l D1 → rdr g n (1 + 3 * l) D1 → 1 + 3 * l ≤ n → m_V L (d + 4) Q t_X3_isText 2 (13, [some (.ref 21), some (.ref 8), some (.int (nI l))], [], D1) := by
    intro hat m
    have out : ∀ (l : Nat) (D1 : m_D), l ≠ 0 → l ≤ 6 → q_lines g n 6 0 = .inr l → goodL g n l → m_fr z_TR D D1 → D1 14 = D 14 → D1 8 0 = nI l → D1 8 1 = nI 0 → rowL g l D1 → rdr g n (1 + 3 * l) D1 → m_V L (d + 4) Q t_X3_isText 2 (49, [some (.ref 21), some (.ref 8), some (.int (nI l))], [], D1) := by
      intro l D1 hl0 hl6 hq hgL hf h14' h80' h81' hrL hr1
      exact v_run 2 rfl (kc hat l ⟨by omega, hl6⟩ hgL hq 3 0 D1 (by omega) rfl (fun j hj => absurd hj (by omega)) hf h14' h80' h81' hrL (fun j hj => absurd hj (by omega)) hr1)
    induction m with
    | zero =>
      intro l D1 hm hq hgL hf h14' h80' h81' hrL hr1 hln
      have hm : l = 6 := by omega
      subst hm
      refine v_go rfl ?_
      refine v_bT rfl (Int32.le_refl _) ?_
      exact out 6 D1 (by omega) (by omega) hq hgL hf h14' h80' h81' hrL hr1
    | succ m ih =>
      intro l D1 hm hq hgL hf h14' h80' h81' hrL hr1 hln
      have step : (l = 0 ∨ atb g n (1 + 3 * l) 44 = true) → m_V L (d + 4) Q t_X3_isText 2 (32, [some (.ref 21), some (.ref 8), some (.int (nI l))], [], D1) := by
        intro hcond
        refine v_go rfl ?_
        refine v_ca rfl ?_
        refine c_takesLine hr1 hn hln (by omega) (fun z D2 hf2 hr2 => ?_) (fun p z hpn D2 hf2 hr2 => ?_)
        · have e21 : ∀ a, a ≠ 21 → D2 a = D1 a := fun a ha => hf2 a (by simpa using ha)
          have hgL2 := goodL_up hgL z
          have hln2 := goodL_le hgL2 (by omega)
          have ih := ih (l + 1) (m_up (m_up (m_up D2 9 l (nI (dgv (g (1 + 3 * l + 1))))) 10 l (nI (dgv (g (1 + 3 * l + 2))))) 8 0 (nI (l + 1))) (by omega) (by rw [hq]; exact ql_n hcond z) hgL2 ((((hf.trans (tr21 hf2)).up (by simp)).up (by simp)).up (by simp)) ((e21 14 (by omega)).trans h14') m_up_s ((congrFun (e21 8 (by omega)) 1).trans h81') (fun j hj => by
            by_cases e : j = l
            · rw [e]
              exact ⟨(pk_us : upd (D2 9) l _ l = _), (pk_us : upd (D2 10) l _ l = _)⟩
            · have h := hrL j (by omega)
              exact ⟨(m_up_n e).trans ((congrFun (e21 9 (by omega)) j).trans h.1), (m_up_n e).trans ((congrFun (e21 10 (by omega)) j).trans h.2)⟩) hr2 hln2
          refine v_go rfl ?_
          refine v_bT rfl (by decide) ?_
          refine v_run 2 rfl ?_
          rw [nI_1]
          exact ih
        · have hq : q_lines g n 6 0 = .inl p := by rw [hq]; exact ql_s hcond z
          refine v_go rfl ?_
          refine v_bF rfl (by decide) ?_
          exact v_go rfl (v_rt rfl (Or.inl rfl) (h0 p D2 (qt_l hat hq) (hf.trans (tr21 hf2)) (by omega) hr2.2.1))
      refine v_go rfl ?_
      refine v_bF rfl (nI_ge (b := 6) (by omega) (by omega)) ?_
      refine v_go rfl ?_
      by_cases hl0 : l = 0
      · subst hl0
        refine v_bT rfl rfl ?_
        exact step (Or.inl rfl)
      · refine v_bF rfl (nI_ne0 (by omega) (by omega)) ?_
        refine v_go rfl ?_
        refine v_ca rfl ?_
        refine c_isAt hr1 hn hln (fun z => ?_) (fun z => ?_)
        · refine v_go rfl ?_
          refine v_bF rfl (by decide) ?_
          exact step (Or.inr z)
        · refine v_go rfl ?_
          refine v_bT rfl rfl ?_
          exact out l D1 hl0 (by omega) (by rw [hq]; exact ql_o (fun y => y.elim hl0 (fun y => by rw [z] at y; cases y))) hgL hf h14' h80' h81' hrL hr1
  refine v_in (tb' := t_X3_isText) (rk' := 2) rfl rfl rfl ?_
  refine v_go rfl ?_
  refine v_ca rfl ?_
  refine c_takes hr hn (by omega) (fun z D1 hf1 hr1 => ?_) (fun z D1 hf1 hr1 => ?_)
  · have e21 : ∀ a, a ≠ 21 → D1 a = D a := fun a ha => hf1 a (by simpa using ha)
    have zp := (atb_t z).1
    refine v_go rfl ?_
    refine v_bT rfl (by decide) ?_
    exact v_run 2 rfl (kl z 6 0 D1 (by omega) rfl (fun j hj => absurd hj (by omega)) (tr21 hf1) (e21 14 (by omega)) ((congrFun (e21 8 (by omega)) 0).trans h80) ((congrFun (e21 8 (by omega)) 1).trans h81) (fun j hj => absurd hj (by omega)) hr1 (by omega))
  · refine v_go rfl ?_
    refine v_bF rfl (by decide) ?_
    exact v_go rfl (v_rt rfl (Or.inl rfl) (h0 0 D1 (qt_0 z) (tr21 hf1) (by omega) hr1.2.1))
theorem c_clear {L d : Nat} {D : m_D} {Q : m_K} (h : ∀ D', m_fr [8, 14] D D' → D' 8 0 = nI 0 → D' 8 1 = nI 0 → (∀ t, t < 6 → D' 14 t = 0) → Q none D') : m_call L (d + 2) 11 [.ref 8] D Q := by
  have hf0 : m_fr [8, 14] D D := m_fr.refl _ _
  refine v_in (tb' := t_X2_clear) (rk' := 0) rfl rfl rfl ?_
  refine v_go rfl ?_
  refine v_ca rfl ?_
  refine c_fill (a := 14) (n := 6) (by simp) (fun D2 hf2 hv => ?_)
  have e8 : D2 8 = m_up (m_up D 8 0 0) 8 1 0 8 := hf2 8 (by simp)
  exact v_rt rfl trivial (h D2 (((hf0.up (by simp)).up (by simp)).trans (hf2.sub (by simp))) (by rw [e8]; rfl) (by rw [e8]; rfl) hv)
theorem c_firstFault {L d k a m n : Nat} {f : Nat → Int32} {D : m_D} {Q : m_K} (hk : k < 4) (hn : n ≤ 60) (ham : a + m ≤ n) (hs : ∀ i, i < n → D (25 + 2 * k) i = f i) (h0 : ∀ p D', q_text (fun j => f (a + j)) m = .inl p → m_fr z_TR D D' → p ≤ 60 → Q (some (.int (nI p))) D') (h1 : ∀ k c D', q_text (fun j => f (a + j)) m = .inr (k, c) → m_fr z_TR D D' → 1 ≤ k ∧ 1 ≤ c → okS (qS (fun j => f (a + j)) k c) → relC 8 D' (qS (fun j => f (a + j)) k c) → Q (some (.int (-9))) D') : m_call L (d + 6) 22 [.ref 21, .ref (24 + 2 * k), .int (nI a), .int (nI m), .ref 8] D Q := by
  have hk4 : k = 0 ∨ k = 1 ∨ k = 2 ∨ k = 3 := by omega
  have hca : (nI a).toNatClampNeg = a := nI_clamp (by omega)
  have hcm : (nI m).toNatClampNeg = m := nI_clamp (by omega)
  have hc0 : (0 : Int32).toNatClampNeg = 0 := by decide
  have hcond : ¬ nI a < 0 ∧ ¬ (0 : Int32) < 0 ∧ ¬ nI m < 0 ∧ (nI a).toNatClampNeg + (nI m).toNatClampNeg ≤ 60 ∧ (0 : Int32).toNatClampNeg + (nI m).toNatClampNeg ≤ 60 := by
    rw [hca, hcm, hc0]
    exact ⟨nI_pos (by omega), by decide, nI_pos (by omega), by omega, by omega⟩
  rcases hk4 with rfl | rfl | rfl | rfl
  · refine v_in (tb' := t_X3_firstFault) (rk' := 1) rfl rfl rfl ?_
    refine v_go rfl ?_
    refine v_sd rfl hcond ?_
    rw [hca, hcm, hc0]
    refine v_go rfl ?_
    refine v_ca rfl ?_
    refine c_clear (fun D2 hf2 a0 a1 a14 => ?_)
    refine v_go rfl ?_
    refine v_ca rfl ?_
    have hfa : m_fr z_TR D D2 := fun q hq => by
      simp only [z_TR, List.mem_cons, List.not_mem_nil, or_false, not_or] at hq
      rw [hf2 q (by simp [hq.1, hq.2.2.2.2.2.2.1]), m_up_ne hq.2.2.2.2.2.2.2.1, m_up_ne hq.2.2.2.2.2.2.2.1, m_cp_ne hq.2.2.2.2.2.2.2.2]
    have hrd : rdr (fun j => f (a + j)) m 0 D2 := by
      refine ⟨?_, ?_, fun j hj => ?_⟩
      · rw [hf2 21 (by simp)]
        rfl
      · rw [hf2 21 (by simp)]
        rfl
      · rw [hf2 22 (by simp)]
        have e1 : va_cpy (D (25 + 2 * 0)) (D 22) a 0 m j = D (25 + 2 * 0) (a + (j - 0)) := pk_cpy_in (by omega) (by omega)
        exact e1.trans (hs _ (by omega))
    refine c_isText hrd (by omega) a0 a1 a14 (fun p D3 hq hf3 hp h21 => ?_) (fun k c D3 hq hf3 hkc ho hr => ?_)
    · refine v_go rfl ?_
      refine v_bT rfl rfl ?_
      refine v_go rfl ?_
      rw [h21]
      exact v_rt rfl trivial (h0 p D3 hq (hfa.trans hf3) hp)
    · refine v_go rfl ?_
      refine v_bF rfl (by decide) ?_
      exact v_go rfl (v_rt rfl trivial (h1 k c D3 hq (hfa.trans hf3) hkc ho hr))
  · refine v_in (tb' := t_X3_firstFault) (rk' := 1) rfl rfl rfl ?_
    refine v_go rfl ?_
    refine v_sd rfl hcond ?_
    rw [hca, hcm, hc0]
    refine v_go rfl ?_
    refine v_ca rfl ?_
    refine c_clear (fun D2 hf2 a0 a1 a14 => ?_)
    refine v_go rfl ?_
    refine v_ca rfl ?_
    have hfa : m_fr z_TR D D2 := fun q hq => by
      simp only [z_TR, List.mem_cons, List.not_mem_nil, or_false, not_or] at hq
      rw [hf2 q (by simp [hq.1, hq.2.2.2.2.2.2.1]), m_up_ne hq.2.2.2.2.2.2.2.1, m_up_ne hq.2.2.2.2.2.2.2.1, m_cp_ne hq.2.2.2.2.2.2.2.2]
    have hrd : rdr (fun j => f (a + j)) m 0 D2 := by
      refine ⟨?_, ?_, fun j hj => ?_⟩
      · rw [hf2 21 (by simp)]
        rfl
      · rw [hf2 21 (by simp)]
        rfl
      · rw [hf2 22 (by simp)]
        have e1 : va_cpy (D (25 + 2 * 1)) (D 22) a 0 m j = D (25 + 2 * 1) (a + (j - 0)) := pk_cpy_in (by omega) (by omega)
        exact e1.trans (hs _ (by omega))
    refine c_isText hrd (by omega) a0 a1 a14 (fun p D3 hq hf3 hp h21 => ?_) (fun k c D3 hq hf3 hkc ho hr => ?_)
    · refine v_go rfl ?_
      refine v_bT rfl rfl ?_
      refine v_go rfl ?_
      rw [h21]
      exact v_rt rfl trivial (h0 p D3 hq (hfa.trans hf3) hp)
    · refine v_go rfl ?_
      refine v_bF rfl (by decide) ?_
      exact v_go rfl (v_rt rfl trivial (h1 k c D3 hq (hfa.trans hf3) hkc ho hr))
  · refine v_in (tb' := t_X3_firstFault) (rk' := 1) rfl rfl rfl ?_
    refine v_go rfl ?_
    refine v_sd rfl hcond ?_
    rw [hca, hcm, hc0]
    refine v_go rfl ?_
    refine v_ca rfl ?_
    refine c_clear (fun D2 hf2 a0 a1 a14 => ?_)
    refine v_go rfl ?_
    refine v_ca rfl ?_
    have hfa : m_fr z_TR D D2 := fun q hq => by
      simp only [z_TR, List.mem_cons, List.not_mem_nil, or_false, not_or] at hq
      rw [hf2 q (by simp [hq.1, hq.2.2.2.2.2.2.1]), m_up_ne hq.2.2.2.2.2.2.2.1, m_up_ne hq.2.2.2.2.2.2.2.1, m_cp_ne hq.2.2.2.2.2.2.2.2]
    have hrd : rdr (fun j => f (a + j)) m 0 D2 := by
      refine ⟨?_, ?_, fun j hj => ?_⟩
      · rw [hf2 21 (by simp)]
        rfl
      · rw [hf2 21 (by simp)]
        rfl
      · rw [hf2 22 (by simp)]
        have e1 : va_cpy (D (25 + 2 * 2)) (D 22) a 0 m j = D (25 + 2 * 2) (a + (j - 0)) := pk_cpy_in (by omega) (by omega)
        exact e1.trans (hs _ (by omega))
    refine c_isText hrd (by omega) a0 a1 a14 (fun p D3 hq hf3 hp h21 => ?_) (fun k c D3 hq hf3 hkc ho hr => ?_)
    · refine v_go rfl ?_
      refine v_bT rfl rfl ?_
      refine v_go rfl ?_
      rw [h21]
      exact v_rt rfl trivial (h0 p D3 hq (hfa.trans hf3) hp)
    · refine v_go rfl ?_
      refine v_bF rfl (by decide) ?_
      exact v_go rfl (v_rt rfl trivial (h1 k c D3 hq (hfa.trans hf3) hkc ho hr))
  · refine v_in (tb' := t_X3_firstFault) (rk' := 1) rfl rfl rfl ?_
    refine v_go rfl ?_
    refine v_sd rfl hcond ?_
    rw [hca, hcm, hc0]
    refine v_go rfl ?_
    refine v_ca rfl ?_
    refine c_clear (fun D2 hf2 a0 a1 a14 => ?_)
    refine v_go rfl ?_
    refine v_ca rfl ?_
    have hfa : m_fr z_TR D D2 := fun q hq => by
      simp only [z_TR, List.mem_cons, List.not_mem_nil, or_false, not_or] at hq
      rw [hf2 q (by simp [hq.1, hq.2.2.2.2.2.2.1]), m_up_ne hq.2.2.2.2.2.2.2.1, m_up_ne hq.2.2.2.2.2.2.2.1, m_cp_ne hq.2.2.2.2.2.2.2.2]
    have hrd : rdr (fun j => f (a + j)) m 0 D2 := by
      refine ⟨?_, ?_, fun j hj => ?_⟩
      · rw [hf2 21 (by simp)]
        rfl
      · rw [hf2 21 (by simp)]
        rfl
      · rw [hf2 22 (by simp)]
        have e1 : va_cpy (D (25 + 2 * 3)) (D 22) a 0 m j = D (25 + 2 * 3) (a + (j - 0)) := pk_cpy_in (by omega) (by omega)
        exact e1.trans (hs _ (by omega))
    refine c_isText hrd (by omega) a0 a1 a14 (fun p D3 hq hf3 hp h21 => ?_) (fun k c D3 hq hf3 hkc ho hr => ?_)
    · refine v_go rfl ?_
      refine v_bT rfl rfl ?_
      refine v_go rfl ?_
      rw [h21]
      exact v_rt rfl trivial (h0 p D3 hq (hfa.trans hf3) hp)
    · refine v_go rfl ?_
      refine v_bF rfl (by decide) ?_
      exact v_go rfl (v_rt rfl trivial (h1 k c D3 hq (hfa.trans hf3) hkc ho hr))
