/-! ===== the reference's whole text ===== -/
abbrev z_RT : List Nat := [41, 42, 43, 44, 45]
def rowLM (g : Nat → Int32) (l : Nat) (D : m_D) : Prop := ∀ j, j < l → D 41 j = nI (dgv (g (1 + 3 * j + 1))) ∧ D 42 j = nI (dgv (g (1 + 3 * j + 2)))
def rowCM (g : Nat → Int32) (k c : Nat) (D : m_D) : Prop := ∀ j, j < c → D 43 j = nI (kdv (g (1 + 3 * k + 4 * j + 1))) ∧ D 44 j = nI (dgv (g (1 + 3 * k + 4 * j + 2))) ∧ D 45 j = nI (dgv (g (1 + 3 * k + 4 * j + 3)))
theorem c_readsShower {L d n b : Nat} {g : Nat → Int32} {D : m_D} {Q : m_K} (hs : shG g n b D) (hn : n ≤ 60) (hb : b + n ≤ 240) (h0 : ∀ p D', q_text g n = .inl p → m_fM z_RT [9, 10, 11] D D' → p ≤ 60 → D' 34 9 = nI p → Q (some (.int 0)) D') (h1 : ∀ k c D', q_text g n = .inr (k, c) → m_fM z_RT [9, 10, 11] D D' → (1 ≤ k ∧ k ≤ 6) ∧ (1 ≤ c ∧ c ≤ 3) → okS (qS g k c) → D' 34 10 = nI k → D' 34 11 = nI c → rowLM g k D' → rowCM g k c D' → Q (some (.int 1)) D') : m_call L (d + 4) 105 [.ref 34, .int (nI b), .int (nI n)] D Q := by
  have sG : ∀ D1, m_fM z_RT [9, 10, 11] D D1 → shG g n b D1 := fun D1 hf j hj => by
    rw [hf.1 58 (by simp) (by decide)]
    exact hs j hj
  have bad73 : ∀ (p : Nat) (D1 : m_D), q_text g n = .inl p → m_fM z_RT [9, 10, 11] D D1 → p ≤ 60 → D1 34 9 = nI p → m_V L (d + 3) Q t_X5_readsShower 2 (73, [some (.ref 34), some (.int (nI b)), some (.int (nI n)), some (.int 0)], [], D1) := by
    intro p D1 hq hf hp h9
    refine v_go rfl ?_
    refine v_bT rfl rfl ?_
    exact v_go rfl (v_rt rfl (Or.inl rfl) (h0 p D1 hq hf hp h9))
  have kc : atb g n 0 115 = true → ∀ (k : Nat), 1 ≤ k ∧ k ≤ 6 → goodL g n k → q_lines g n 6 0 = .inr k → ∀ (m c : Nat) (D1 : m_D), c + m = 3 → q_cri g n k 3 0 = q_cri g n k m c → goodC g n k c → m_fM z_RT [9, 10, 11] D D1 → D1 34 9 = nI (1 + 3 * k + 4 * c) → D1 34 10 = nI k → D1 34 11 = nI c → rowLM g k D1 → rowCM g k c D1 → m_V L (d + 3) Q t_X5_readsShower 2 (73, [some (.ref 34), some (.int (nI b)), some (.int (nI n)), some (.int 1)], [], D1) := by
    intro hat k hk hgL hql m
    have hkn := goodL_le hgL (by omega)
    have fin : ∀ (c : Nat) (D1 : m_D), c ≠ 0 → c ≤ 3 → q_cri g n k 3 0 = .inr c → goodC g n k c → m_fM z_RT [9, 10, 11] D D1 → D1 34 10 = nI k → D1 34 11 = nI c → rowLM g k D1 → rowCM g k c D1 → m_V L (d + 3) Q t_X5_readsShower 2 (103, [some (.ref 34), some (.int (nI b)), some (.int (nI n)), some (.int 1)], [], D1) := by
      intro c D1 hc0 hc3 hqc hgC hf a10 a11 hrL hrC
      exact v_go rfl (v_rt rfl (Or.inr rfl) (h1 k c D1 (qt_k hat hql hqc) hf ⟨hk, by omega, hc3⟩ (okS_q hgL hgC hk hc3) a10 a11 hrL hrC))
    induction m with
    | zero =>
      intro c D1 hm hq hgC hf a9 a10 a11 hrL hrC
      have hm : c = 3 := by omega
      subst hm
      have hcn := goodC_le hgC (by omega)
      refine v_go rfl ?_
      refine v_bF rfl (by decide) ?_
      refine v_go rfl ?_
      rw [a11]
      refine v_bF rfl (by decide) ?_
      refine v_go rfl ?_
      rw [a9]
      by_cases hlt : 1 + 3 * k + 4 * 3 < n
      · have hq : q_cri g n k 3 0 = .inl (1 + 3 * k + 4 * 3) := by
          rw [hq]
          exact if_pos hlt
        refine v_bF rfl (nI_ge hlt (by omega)) ?_
        refine v_go rfl ?_
        refine v_ca rfl ?_
        refine c_readsCrier3 a11 ?_
        refine v_run 2 rfl ?_
        exact bad73 _ D1 (qt_c hat hql hq) hf (by omega) a9
      · have hq : q_cri g n k 3 0 = .inr 3 := by
          rw [hq]
          exact if_neg hlt
        refine v_bT rfl (nI_le (by omega) (by omega)) ?_
        exact fin 3 D1 (by omega) (by omega) hq hgC hf a10 a11 hrL hrC
    | succ m ih =>
      intro c D1 hm hq hgC hf a9 a10 a11 hrL hrC
      have hpn : 1 + 3 * k + 4 * c ≤ n := by
        by_cases hc0 : c = 0
        · omega
        · exact goodC_le hgC hc0
      have step : (c = 0 ∨ 1 + 3 * k + 4 * c < n) → m_V L (d + 3) Q t_X5_readsShower 2 (93, [some (.ref 34), some (.int (nI b)), some (.int (nI n)), some (.int 1)], [], D1) := by
        intro hcond
        refine v_go rfl ?_
        refine v_ca rfl ?_
        refine c_readsCrier (sG D1 hf) hn hb hpn (by omega) hk a9 a10 a11 (fun z D2 hf2 b9 b11 b43 b44 b45 bo => ?_) (fun p z hpn D2 hf2 b9 => ?_)
        · refine v_run 2 rfl ?_
          refine ih (c + 1) D2 (by omega) (by rw [hq]; exact qc_n hcond z) (goodC_up hgC z) (hf.trans (hf2.sub (by simp) (by simp))) b9 (by rw [hf2.2 10 (by simp)]; exact a10) b11 (fun j hj => ?_) (fun j hj => ?_)
          · rw [hf2.1 41 (by simp) (by decide), hf2.1 42 (by simp) (by decide)]
            exact hrL j hj
          · by_cases e : j = c
            · rw [e]
              exact ⟨b43, b44, b45⟩
            · obtain ⟨q1, q2, q3⟩ := bo j e
              rw [q1, q2, q3]
              exact hrC j (by omega)
        · have hq : q_cri g n k 3 0 = .inl p := by rw [hq]; exact qc_s hcond z
          refine v_run 2 rfl ?_
          exact bad73 p D2 (qt_c hat hql hq) (hf.trans (hf2.sub (by simp) (by simp))) (by omega) b9
      refine v_go rfl ?_
      refine v_bF rfl (by decide) ?_
      refine v_go rfl ?_
      rw [a11]
      by_cases hc0 : c = 0
      · subst hc0
        refine v_bT rfl (by decide) ?_
        exact step (Or.inl rfl)
      · refine v_bF rfl (nI_nlt (b := 1) (by omega) (by omega)) ?_
        refine v_go rfl ?_
        rw [a9]
        by_cases hlt : 1 + 3 * k + 4 * c < n
        · refine v_bF rfl (nI_ge hlt (by omega)) ?_
          exact step (Or.inr hlt)
        · refine v_bT rfl (nI_le (by omega) (by omega)) ?_
          exact fin c D1 hc0 (by omega) (by rw [hq]; exact qc_o (fun z => z.elim hc0 hlt)) hgC hf a10 a11 hrL hrC
  have bad40 : ∀ (p : Nat) (D1 : m_D), q_text g n = .inl p → m_fM z_RT [9, 10, 11] D D1 → p ≤ 60 → D1 34 9 = nI p → m_V L (d + 3) Q t_X5_readsShower 2 (40, [some (.ref 34), some (.int (nI b)), some (.int (nI n)), some (.int 0)], [], D1) := by
    intro p D1 hq hf hp h9
    refine v_go rfl ?_
    refine v_bT rfl rfl ?_
    exact bad73 p D1 hq hf hp h9
  have kl : atb g n 0 115 = true → ∀ (m l : Nat) (D1 : m_D), l + m = 6 → q_lines g n 6 0 = q_lines g n m l → goodL g n l → m_fM z_RT [9, 10, 11] D D1 → D1 34 9 = nI (1 + 3 * l) → D1 34 10 = nI l → D1 34 11 = nI 0 → rowLM g l D1 → 1 + 3 * l ≤ n → m_V L (d + 3) Q t_X5_readsShower 2 (40, [some (.ref 34), some (.int (nI b)), some (.int (nI n)), some (.int 1)], [], D1) := by
    intro hat m
    have out : ∀ (l : Nat) (D1 : m_D), l ≠ 0 → l ≤ 6 → q_lines g n 6 0 = .inr l → goodL g n l → m_fM z_RT [9, 10, 11] D D1 → D1 34 9 = nI (1 + 3 * l) → D1 34 10 = nI l → D1 34 11 = nI 0 → rowLM g l D1 → m_V L (d + 3) Q t_X5_readsShower 2 (73, [some (.ref 34), some (.int (nI b)), some (.int (nI n)), some (.int 1)], [], D1) := by
      intro l D1 hl0 hl6 hq hgL hf a9 a10 a11 hrL
      exact kc hat l ⟨by omega, hl6⟩ hgL hq 3 0 D1 (by omega) rfl (fun j hj => absurd hj (by omega)) hf a9 a10 a11 hrL (fun j hj => absurd hj (by omega))
    induction m with
    | zero =>
      intro l D1 hm hq hgL hf a9 a10 a11 hrL hln
      have hm : l = 6 := by omega
      subst hm
      refine v_go rfl ?_
      refine v_bF rfl (by decide) ?_
      refine v_go rfl ?_
      rw [a10]
      refine v_bF rfl (by decide) ?_
      refine v_go rfl ?_
      refine v_ca rfl ?_
      refine c_codeAt (sG D1 hf) hb hln a9 ?_
      refine v_go rfl ?_
      refine v_br rfl (fun z => ?_) (fun z => ?_)
      · exact out 6 D1 (by omega) (by omega) hq hgL hf a9 a10 a11 hrL
      · have z := Decidable.not_not.mp z
        have z := atb_t ((cdA_at (by decide)).mp z)
        have hfc : f_cri g n 6 (1 + 3 * 6 + 4 * 0) = some (1 + 3 * 6) := by
          unfold f_cri
          rw [if_pos]
          · apply decide_eq_false
            intro y
            have y2 : g (1 + 3 * 6) = 59 := y.2
            rw [z.2] at y2
            exact absurd y2 (by decide)
        have hqc : q_cri g n 6 3 0 = .inl (1 + 3 * 6) := qc_s (Or.inl rfl) hfc
        refine v_go rfl ?_
        refine v_ca rfl ?_
        refine c_readsLine6 a10 ?_
        refine v_run 2 rfl ?_
        exact bad40 _ D1 (qt_c hat hq hqc) hf (by omega) a9
    | succ m ih =>
      intro l D1 hm hq hgL hf a9 a10 a11 hrL hln
      have step : (l = 0 ∨ atb g n (1 + 3 * l) 44 = true) → m_V L (d + 3) Q t_X5_readsShower 2 (63, [some (.ref 34), some (.int (nI b)), some (.int (nI n)), some (.int 1)], [], D1) := by
        intro hcond
        refine v_go rfl ?_
        refine v_ca rfl ?_
        refine c_readsLine (sG D1 hf) hn hb hln (by omega) a9 a10 (fun z D2 hf2 b9 b10 b41 b42 bo => ?_) (fun p z hpn D2 hf2 b9 => ?_)
        · have hgL2 := goodL_up hgL z
          refine v_run 2 rfl ?_
          refine ih (l + 1) D2 (by omega) (by rw [hq]; exact ql_n hcond z) hgL2 (hf.trans (hf2.sub (by simp) (by simp))) b9 b10 (by rw [hf2.2 11 (by simp)]; exact a11) (fun j hj => ?_) (goodL_le hgL2 (by omega))
          by_cases e : j = l
          · rw [e]
            exact ⟨b41, b42⟩
          · obtain ⟨q1, q2⟩ := bo j e
            rw [q1, q2]
            exact hrL j (by omega)
        · have hq : q_lines g n 6 0 = .inl p := by rw [hq]; exact ql_s hcond z
          refine v_run 2 rfl ?_
          exact bad40 p D2 (qt_l hat hq) (hf.trans (hf2.sub (by simp) (by simp))) (by omega) b9
      refine v_go rfl ?_
      refine v_bF rfl (by decide) ?_
      refine v_go rfl ?_
      rw [a10]
      by_cases hl0 : l = 0
      · subst hl0
        refine v_bT rfl (by decide) ?_
        exact step (Or.inl rfl)
      · refine v_bF rfl (nI_nlt (b := 1) (by omega) (by omega)) ?_
        refine v_go rfl ?_
        refine v_ca rfl ?_
        refine c_codeAt (sG D1 hf) hb hln a9 ?_
        refine v_go rfl ?_
        refine v_br rfl (fun z => ?_) (fun z => ?_)
        · exact out l D1 hl0 (by omega) (by rw [hq]; exact ql_o (fun y => y.elim hl0 (fun y => z ((cdA_at (by decide)).mpr y)))) hgL hf a9 a10 a11 hrL
        · have z := Decidable.not_not.mp z
          exact step (Or.inr ((cdA_at (by decide)).mp z))
  have hf0 : m_fM z_RT [9, 10, 11] D D := m_fM.refl _ _ _
  refine v_in (tb' := t_X5_readsShower) (rk' := 2) rfl rfl rfl ?_
  refine v_go rfl ?_
  have hfA : m_fM z_RT [9, 10, 11] D (m_up (m_up (m_up D 34 9 0) 34 10 0) 34 11 0) := ((hf0.upF (by simp)).upF (by simp)).upF (by simp)
  have a9 : m_up (m_up (m_up D 34 9 0) 34 10 0) 34 11 0 34 9 = nI 0 := by
    rw [m_up_n (by decide), m_up_n (by decide), m_up_s]
    rfl
  have a10 : m_up (m_up (m_up D 34 9 0) 34 10 0) 34 11 0 34 10 = nI 0 := by
    rw [m_up_n (by decide), m_up_s]
    rfl
  have a11 : m_up (m_up (m_up D 34 9 0) 34 10 0) 34 11 0 34 11 = nI 0 := by
    rw [m_up_s]
    rfl
  generalize m_up (m_up (m_up D 34 9 0) 34 10 0) 34 11 0 = D1 at hfA a9 a10 a11 ⊢
  refine v_ca rfl ?_
  refine c_codeAt (sG D1 hfA) hb (by omega) a9 ?_
  refine v_go rfl ?_
  refine v_br rfl (fun z => ?_) (fun z => ?_)
  · have z := (cdA_at (by decide)).mp z
    have zp := (atb_t z).1
    refine v_run 8 rfl ?_
    rw [a9, nI_1]
    exact kl z 6 0 _ (by omega) rfl (fun j hj => absurd hj (by omega)) (hfA.upF (by simp)) m_up_s ((m_up_n (by decide)).trans a10) ((m_up_n (by decide)).trans a11) (fun j hj => absurd hj (by omega)) (by omega)
  · have z : atb g n 0 115 = false := by
      cases e : atb g n 0 115 with
      | false => rfl
      | true => exact absurd ((cdA_at (by decide)).mpr e) z
    exact v_go rfl (v_rt rfl (Or.inl rfl) (h0 0 D1 (qt_0 z) hfA (by omega) a9))

theorem ql_ok {g : Nat → Int32} {n k : Nat} : ∀ (m l : Nat), l + m = 6 → goodL g n l → q_lines g n m l = .inr k → goodL g n k ∧ k ≤ 6 ∧ (l ≠ 0 → k ≠ 0) ∧ (m ≠ 0 → k ≠ 0)
  | 0, l, hm, hg, h => by
    have e : l = k := Sum.inr.inj h
    rw [e] at hg hm ⊢
    exact ⟨hg, by omega, fun z => z, fun z => absurd rfl z⟩
  | m + 1, l, hm, hg, h => by
    by_cases hc : l = 0 ∨ atb g n (1 + 3 * l) 44 = true
    · cases e : f_line g n (1 + 3 * l) with
      | some p =>
        rw [ql_s hc e] at h
        cases h
      | none =>
        rw [ql_n hc e] at h
        obtain ⟨q1, q2, q3, q4⟩ := ql_ok m (l + 1) (by omega) (goodL_up hg e) h
        exact ⟨q1, q2, fun _ => q3 (by omega), fun _ => q3 (by omega)⟩
    · rw [ql_o hc] at h
      have h0 : l ≠ 0 := fun z => hc (Or.inl z)
      have e : l = k := Sum.inr.inj h
      rw [e] at hg h0 hm
      exact ⟨hg, by omega, fun _ => h0, fun _ => h0⟩
theorem qc_ok {g : Nat → Int32} {n k c : Nat} : ∀ (m i : Nat), i + m = 3 → goodC g n k i → q_cri g n k m i = .inr c → goodC g n k c ∧ c ≤ 3 ∧ (i ≠ 0 → c ≠ 0) ∧ (m ≠ 0 → c ≠ 0)
  | 0, i, hm, hg, h => by
    have h : (if 1 + 3 * k + 4 * i < n then (Sum.inl (1 + 3 * k + 4 * i) : Nat ⊕ Nat) else .inr i) = .inr c := h
    by_cases e : 1 + 3 * k + 4 * i < n
    · rw [if_pos e] at h
      cases h
    · rw [if_neg e] at h
      have e2 : i = c := Sum.inr.inj h
      rw [e2] at hg hm ⊢
      exact ⟨hg, by omega, fun z => z, fun z => absurd rfl z⟩
  | m + 1, i, hm, hg, h => by
    by_cases hc : i = 0 ∨ 1 + 3 * k + 4 * i < n
    · cases e : f_cri g n k (1 + 3 * k + 4 * i) with
      | some p =>
        rw [qc_s hc e] at h
        cases h
      | none =>
        rw [qc_n hc e] at h
        obtain ⟨q1, q2, q3, q4⟩ := qc_ok m (i + 1) (by omega) (goodC_up hg e) h
        exact ⟨q1, q2, fun _ => q3 (by omega), fun _ => q3 (by omega)⟩
    · rw [qc_o hc] at h
      have h0 : i ≠ 0 := fun z => hc (Or.inl z)
      have e : i = c := Sum.inr.inj h
      rw [e] at hg h0 hm
      exact ⟨hg, by omega, fun _ => h0, fun _ => h0⟩
theorem q_text_ok {g : Nat → Int32} {n k c : Nat} (h : q_text g n = .inr (k, c)) : okS (qS g k c) ∧ 1 ≤ k ∧ 1 ≤ c := by
  cases e0 : atb g n 0 115 with
  | false =>
    rw [qt_0 e0] at h
    cases h
  | true =>
    cases e1 : q_lines g n 6 0 with
    | inl p =>
      rw [qt_l e0 e1] at h
      cases h
    | inr k' =>
      cases e2 : q_cri g n k' 3 0 with
      | inl p =>
        rw [qt_c e0 e1 e2] at h
        cases h
      | inr c' =>
        rw [qt_k e0 e1 e2] at h
        cases h
        obtain ⟨a1, a2, -, a4⟩ := ql_ok 6 0 (by omega) (fun j hj => absurd hj (by omega)) e1
        obtain ⟨b1, b2, -, b4⟩ := qc_ok 3 0 (by omega) (fun j hj => absurd hj (by omega)) e2
        have a5 := a4 (by omega)
        have b5 := b4 (by omega)
        exact ⟨okS_q a1 b1 ⟨by omega, a2⟩ b2, by omega, by omega⟩
theorem c_become2 {L d : Nat} {S : SH} {D : m_D} {Q : m_K} (hr : relC 8 D S) (ho : okS S) (h : ∀ D', m_fr [1, 2, 3, 4, 5, 6, 7] D D' → relC 1 D' S → Q none D') : m_call L (d + 2) 12 [.ref 1, .ref 8] D Q := by
  have c6 : ¬ (0 : Int32) < 0 ∧ ¬ (0 : Int32) < 0 ∧ ¬ (6 : Int32) < 0 ∧ (0 : Int32).toNatClampNeg + (6 : Int32).toNatClampNeg ≤ 6 ∧ (0 : Int32).toNatClampNeg + (6 : Int32).toNatClampNeg ≤ 6 := by decide
  have c3 : ¬ (0 : Int32) < 0 ∧ ¬ (0 : Int32) < 0 ∧ ¬ (3 : Int32) < 0 ∧ (0 : Int32).toNatClampNeg + (3 : Int32).toNatClampNeg ≤ 3 ∧ (0 : Int32).toNatClampNeg + (3 : Int32).toNatClampNeg ≤ 3 := by decide
  refine v_in (tb' := t_X2_become) (rk' := 0) rfl rfl rfl ?_
  refine v_go rfl (v_sd rfl c6 ?_)
  refine v_go rfl (v_sd rfl c6 ?_)
  refine v_go rfl (v_sd rfl c3 ?_)
  refine v_go rfl (v_sd rfl c3 ?_)
  refine v_go rfl (v_sd rfl c3 ?_)
  refine v_go rfl (v_sd rfl c6 ?_)
  obtain ⟨h1, h2, h3, h4, h5⟩ := hr
  obtain ⟨o1, o2, -, -⟩ := ho
  refine v_rt rfl trivial (h _ (fun a ha => ?_) ⟨h1, h2, fun l hl => ⟨?_, ?_⟩, fun c hc => ⟨?_, ?_, ?_⟩, fun t ht => ?_⟩)
  · simp only [List.mem_cons, List.not_mem_nil, or_false, not_or] at ha
    obtain ⟨a8, a9, a10, a11, a12, a13, a14⟩ := ha
    rw [m_cp_ne a14, m_cp_ne a13, m_cp_ne a12, m_cp_ne a11, m_cp_ne a10, m_cp_ne a9, m_up_ne a8, m_up_ne a8]
  · exact (cpy0 (f := D 9) (n := 6) (by omega)).trans (h3 l hl).1
  · exact (cpy0 (f := D 10) (n := 6) (by omega)).trans (h3 l hl).2
  · exact (cpy0 (f := D 11) (n := 3) (by omega)).trans (h4 c hc).1
  · exact (cpy0 (f := D 12) (n := 3) (by omega)).trans (h4 c hc).2.1
  · exact (cpy0 (f := D 13) (n := 3) (by omega)).trans (h4 c hc).2.2
  · exact (cpy0 (f := D 14) (n := 6) (by omega)).trans (h5 t ht)
abbrev z_SH : List Nat := [35, 36, 37, 38, 39, 40, 41, 42, 43, 44, 45]
abbrev f_SH : List Nat := [1, 2, 9, 10, 11, 26]
theorem y_take {L k c : Nat} {g : Nat → Int32} {x y u w : Int32} {D D0 : m_D} {Q : m_K} (hk : 1 ≤ k ∧ k ≤ 6) (hc : 1 ≤ c ∧ c ≤ 3) (hf0 : m_fM z_RT [9, 10, 11] D D0) (h10 : D0 34 10 = nI k) (h11 : D0 34 11 = nI c) (hrL : rowLM g k D0) (hrC : rowCM g k c D0) (h : ∀ D', m_fM z_SH f_SH D D' → relM D' (qS g k c) → D' 34 26 = 0 → Q (some (.int (nI c))) (m_up D' 34 0 0)) : m_V L 7 Q t_X5_shower 1 (79, [some (.ref 34), some (.int x), some (.int y), some (.int u), some (.int w), some (.int 0), none], [], D0) := by
  have k3 : ∀ (m i : Nat) (D1 : m_D), i + m = 4 → m_fM z_SH f_SH D D1 → D1 34 1 = nI k → D1 34 2 = nI c → (∀ q, q < k → D1 35 q = nI (dgv (g (1 + 3 * q + 1))) ∧ D1 36 q = nI (dgv (g (1 + 3 * q + 2)))) → (∀ q, q < c → D1 37 q = nI (kdv (g (1 + 3 * k + 4 * q + 1))) ∧ D1 38 q = nI (dgv (g (1 + 3 * k + 4 * q + 2))) ∧ D1 39 q = nI (dgv (g (1 + 3 * k + 4 * q + 3)))) → (∀ q, q < i → D1 40 q = 0) → m_V L 7 Q t_X5_shower 1 (204, [some (.ref 34), some (.int x), some (.int y), some (.int u), some (.int w), some (.int 0), some (.int (nI i))], [], D1) := by
    intro m
    induction m with
    | zero =>
      intro i D1 hm hf a1 a2 aL aC a40
      have hm : i = 4 := by omega
      subst hm
      have e2 : m_up D1 34 26 0 34 2 = nI c := (m_up_n (by decide)).trans a2
      refine v_go rfl ?_
      refine v_bT rfl (Int32.le_refl _) ?_
      refine v_go rfl ?_
      rw [e2]
      refine v_ca rfl ?_
      refine c_refused ?_
      refine v_rt rfl trivial (h _ (hf.upF (by simp)) ⟨(m_up_n (by decide)).trans a1, e2, aL, aC, fun f hf4 => ?_⟩ m_up_s)
      have e0 : b_sum (fun t => (qS g k c).2.2.2 f t) 6 = 0 := b_sum_0 6
      rw [e0]
      exact a40 f hf4
    | succ m ih =>
      intro i D1 hm hf a1 a2 aL aC a40
      have hin : vp_in (nI i) 4 := vp_in_nI (by omega) (by omega)
      have hcl : (nI i).toNatClampNeg = i := nI_clamp (by omega)
      have ih := ih (i + 1) (m_up D1 40 i 0) (by omega) (hf.up (by simp) (by decide)) a1 a2 aL aC (fun q hq => by
        by_cases e : q = i
        · rw [e, m_up_s]
        · rw [m_up_n e]
          exact a40 q (by omega))
      rw [← nI_1] at ih
      refine v_go rfl ?_
      refine v_bF rfl (nI_ge (b := 4) (by omega) (by omega)) ?_
      refine v_go rfl ?_
      refine v_sd rfl hin ?_
      rw [hcl]
      exact v_run 2 rfl ih
  have k2 : ∀ (m i : Nat) (D1 : m_D), i + m = c → m_fM z_SH f_SH D D1 → D1 34 1 = nI k → D1 34 2 = nI c → rowCM g k c D1 → (∀ q, q < k → D1 35 q = nI (dgv (g (1 + 3 * q + 1))) ∧ D1 36 q = nI (dgv (g (1 + 3 * q + 2)))) → (∀ q, q < i → D1 37 q = nI (kdv (g (1 + 3 * k + 4 * q + 1))) ∧ D1 38 q = nI (dgv (g (1 + 3 * k + 4 * q + 2))) ∧ D1 39 q = nI (dgv (g (1 + 3 * k + 4 * q + 3)))) → m_V L 7 Q t_X5_shower 1 (144, [some (.ref 34), some (.int x), some (.int y), some (.int u), some (.int w), some (.int 0), some (.int (nI i))], [], D1) := by
    intro m
    induction m with
    | zero =>
      intro i D1 hm hf a1 a2 hrC aL aC
      have hm : i = c := by omega
      subst hm
      refine v_go rfl ?_
      rw [a2]
      refine v_bT rfl (Int32.le_refl _) ?_
      exact v_run 2 rfl (k3 4 0 D1 (by omega) hf a1 a2 aL aC (fun q hq => absurd hq (by omega)))
    | succ m ih =>
      intro i D1 hm hf a1 a2 hrC aL aC
      have hin : vp_in (nI i) 3 := vp_in_nI (by omega) (by omega)
      have hcl : (nI i).toNatClampNeg = i := nI_clamp (by omega)
      obtain ⟨q1, q2, q3⟩ := hrC i (by omega)
      have ih := ih (i + 1) (m_up (m_up (m_up D1 37 i (nI (kdv (g (1 + 3 * k + 4 * i + 1))))) 38 i (nI (dgv (g (1 + 3 * k + 4 * i + 2))))) 39 i (nI (dgv (g (1 + 3 * k + 4 * i + 3))))) (by omega) (((hf.up (by simp) (by decide)).up (by simp) (by decide)).up (by simp) (by decide)) a1 a2 hrC aL (fun q hq => by
        rw [m_up_ne (by decide), m_up_ne (by decide), m_up_ne (D := m_up (m_up D1 37 i _) 38 i _) (a := 38) (by decide)]
        by_cases e : q = i
        · rw [e]
          exact ⟨m_up_s, m_up_s, m_up_s⟩
        · rw [m_up_n e, m_up_n e, m_up_n e, m_up_ne (by decide), m_up_ne (by decide), m_up_ne (by decide)]
          exact aC q (by omega))
      rw [← nI_1] at ih
      refine v_go rfl ?_
      rw [a2]
      refine v_bF rfl (nI_ge (by omega) (by omega)) ?_
      refine v_go rfl ?_
      refine v_sd rfl hin ?_
      rw [hcl, q1]
      refine v_sd rfl hin ?_
      rw [hcl]
      refine v_go rfl ?_
      refine v_sd rfl hin ?_
      rw [hcl]
      have q2' : m_up D1 37 i (nI (kdv (g (1 + 3 * k + 4 * i + 1)))) 44 i = nI (dgv (g (1 + 3 * k + 4 * i + 2))) := q2
      rw [q2']
      refine v_sd rfl hin ?_
      rw [hcl]
      refine v_go rfl ?_
      refine v_sd rfl hin ?_
      rw [hcl]
      have q3' : m_up (m_up D1 37 i (nI (kdv (g (1 + 3 * k + 4 * i + 1))))) 38 i (nI (dgv (g (1 + 3 * k + 4 * i + 2)))) 45 i = nI (dgv (g (1 + 3 * k + 4 * i + 3))) := q3
      rw [q3']
      refine v_sd rfl hin ?_
      rw [hcl]
      exact v_run 2 rfl ih
  have k1 : ∀ (m i : Nat) (D1 : m_D), i + m = k → m_fM z_SH f_SH D D1 → D1 34 1 = nI k → D1 34 2 = nI c → rowLM g k D1 → rowCM g k c D1 → (∀ q, q < i → D1 35 q = nI (dgv (g (1 + 3 * q + 1))) ∧ D1 36 q = nI (dgv (g (1 + 3 * q + 2)))) → m_V L 7 Q t_X5_shower 1 (98, [some (.ref 34), some (.int x), some (.int y), some (.int u), some (.int w), some (.int 0), some (.int (nI i))], [], D1) := by
    intro m
    induction m with
    | zero =>
      intro i D1 hm hf a1 a2 hrL hrC aL
      have hm : i = k := by omega
      subst hm
      refine v_go rfl ?_
      rw [a1]
      refine v_bT rfl (Int32.le_refl _) ?_
      exact v_run 2 rfl (k2 c 0 D1 (by omega) hf a1 a2 hrC aL (fun q hq => absurd hq (by omega)))
    | succ m ih =>
      intro i D1 hm hf a1 a2 hrL hrC aL
      have hin : vp_in (nI i) 6 := vp_in_nI (by omega) (by omega)
      have hcl : (nI i).toNatClampNeg = i := nI_clamp (by omega)
      obtain ⟨q1, q2⟩ := hrL i (by omega)
      have ih := ih (i + 1) (m_up (m_up D1 35 i (nI (dgv (g (1 + 3 * i + 1))))) 36 i (nI (dgv (g (1 + 3 * i + 2))))) (by omega) ((hf.up (by simp) (by decide)).up (by simp) (by decide)) a1 a2 hrL hrC (fun q hq => by
        rw [m_up_ne (by decide)]
        by_cases e : q = i
        · rw [e]
          exact ⟨m_up_s, m_up_s⟩
        · rw [m_up_n e, m_up_n e, m_up_ne (by decide)]
          exact aL q (by omega))
      rw [← nI_1] at ih
      refine v_go rfl ?_
      rw [a1]
      refine v_bF rfl (nI_ge (by omega) (by omega)) ?_
      refine v_go rfl ?_
      refine v_sd rfl hin ?_
      rw [hcl, q1]
      refine v_sd rfl hin ?_
      rw [hcl]
      refine v_go rfl ?_
      refine v_sd rfl hin ?_
      rw [hcl]
      have q2' : m_up D1 35 i (nI (dgv (g (1 + 3 * i + 1)))) 42 i = nI (dgv (g (1 + 3 * i + 2))) := q2
      rw [q2']
      refine v_sd rfl hin ?_
      rw [hcl]
      exact v_run 2 rfl ih
  refine v_run 10 rfl ?_
  have e11 : m_up D0 34 1 (nI k) 34 11 = nI c := (m_up_n (by decide)).trans h11
  rw [h10, e11]
  have hfA : m_fM z_SH f_SH D (m_up (m_up D0 34 1 (nI k)) 34 2 (nI c)) := ((hf0.sub (by simp) (by simp)).upF (by simp)).upF (by simp)
  exact k1 k 0 _ (by omega) hfA ((m_up_n (by decide)).trans m_up_s) m_up_s hrL hrC (fun q hq => absurd hq (by omega))
theorem s_shower (x y u w : Int32) : StepI 30 107 [.int x, .int y, .int u, .int w] := by
  intro L Z hz
  obtain ⟨S, rd, sh, tr, fl⟩ := Z
  have hoS : okS S := hz.1
  by_cases hx : vp_in x 4
  · by_cases hy : vp_in y 3
    · obtain ⟨k, hk, rfl⟩ := vp_in_of hx (by omega)
      have hk4 : k = 0 ∨ k = 1 ∨ k = 2 ∨ k = 3 := by omega
      have hkk := hk
      have h60 : ∀ la n f, sh k = some (la, n, f) → n ≤ 60 := fun la n f e => (hz.2.2.2.2 k hk la n f e).2
      have hwb := i64_small w
      have w64' : (w.toInt64).toInt = w.toInt := Int32.toInt_toInt64 w
      have xpre : ∀ (D : m_D) (Q : m_K), m_V L 7 Q t_X4_shower 1 (30, [some (.ref 0), some (.int (nI k)), some (.int y), some (.int u), some (.int w), none, none, none], [.ref (24 + 2 * k)], m_up D 0 9 0) → m_call L 8 30 [.ref 0, .int (nI k), .int y, .int u, .int w] D Q := by
        intro D Q hk2
        refine v_in (tb' := t_X4_shower) (rk' := 1) rfl rfl rfl ?_
        refine v_go rfl ?_
        refine v_ca rfl ?_
        refine c_isSheet (fun _ => ?_) (fun z => absurd hx z)
        refine v_go rfl ?_
        refine v_bT rfl (by decide) ?_
        refine v_go rfl ?_
        refine v_ca rfl ?_
        refine c_isLane (fun _ => ?_) (fun z => absurd hy z)
        refine v_go rfl ?_
        refine v_bT rfl (by decide) ?_
        refine v_go rfl ?_
        refine v_al rfl hx (fun q hq => ?_)
        have hq := al_q hk hq
        subst hq
        exact hk2
      have ypre : ∀ (D : m_D) (Q : m_K), m_call L 7 106 [.ref 34, .int (nI k), .int y, .int u, .long w.toInt64] D (fun r D' => m_V L 7 Q t_X5_shower 1 (m_beh 42 [some (.ref 34), some (.int (nI k)), some (.int y), some (.int u), some (.int w), none, none] [] r D')) → m_call L 8 107 [.ref 34, .int (nI k), .int y, .int u, .int w] D Q := by
        intro D Q hk2
        refine v_in (tb' := t_X5_shower) (rk' := 1) rfl rfl rfl ?_
        refine v_go rfl ?_
        refine v_ca rfl ?_
        refine c_noSheet (fun _ => ?_) (fun z => absurd hx z)
        refine v_go rfl ?_
        refine v_bT rfl rfl ?_
        refine v_go rfl ?_
        refine v_ca rfl ?_
        refine c_in (fun _ _ => ?_) (fun z => absurd ((in_iff (n := 3) (by decide)).mpr hy) z)
        refine v_go rfl ?_
        refine v_bT rfl (by decide) ?_
        refine v_go rfl ?_
        exact v_ca rfl hk2
      cases hs : sh k with
      | none =>
        refine ⟨-10 - 1, (S, rd, sh, tr, 1), okZ_fl hz, fun D Q hI h => ?_, fun D Q hI h => ?_⟩
        · have hsk : shC k (m_up D 0 9 0) (sh k) := (InvC_fl 0 hI).2.2.2.1 k hk
          have h := h (m_up D 0 9 1) ((frC.refl _).up (by omega)) (InvC_fl _ hI)
          refine xpre D Q ?_
          rcases hk4 with rfl | rfl | rfl | rfl
          all_goals
            refine v_go rfl ?_
            refine v_ca rfl ?_
            refine c_taking hkk hsk (fun _ => ?_) (fun a b c e => by rw [hs] at e; cases e) (fun a b c e => by rw [hs] at e; cases e)
            refine v_go rfl ?_
            refine v_bF rfl (by decide) ?_
            refine v_go rfl ?_
            refine v_ca rfl ?_
            refine c_faulted ?_
            rw [m_up_ii]
            exact v_rt rfl trivial h
        · have hsk : shM k D (sh k) := hI.2.2.2.1 k hk
          refine ypre D Q ?_
          refine c_cellsBarred hk hsk h60 hwb (fun _ => ?_) (fun a b c e => by rw [hs] at e; cases e) (fun a b c e => by rw [hs] at e; cases e) (fun a b c e => by rw [hs] at e; cases e) (fun a b c e => by rw [hs] at e; cases e)
          refine v_go rfl ?_
          refine v_bF rfl (by decide) ?_
          exact v_go rfl (v_rt rfl trivial (h _ ((frM.refl _).up (by omega)) (InvM_fl _ hI)))
      | some s0 =>
        obtain ⟨la, n, f⟩ := s0
        have hn60 := h60 la n f hs
        by_cases hlw : nI la = y
        · by_cases hw0 : w.toInt < 0
          · refine ⟨-10 - 4, (S, rd, sh, tr, 4), okZ_fl hz, fun D Q hI h => ?_, fun D Q hI h => ?_⟩
            · have hsk : shC k (m_up D 0 9 0) (sh k) := (InvC_fl 0 hI).2.2.2.1 k hk
              have h := h (m_up D 0 9 4) ((frC.refl _).up (by omega)) (InvC_fl _ hI)
              have hwn : ¬ (0 : Int32) ≤ w := by
                rw [Int32.le_iff_toInt_le, Int32.toInt_zero]
                omega
              refine xpre D Q ?_
              rcases hk4 with rfl | rfl | rfl | rfl
              all_goals
                refine v_go rfl ?_
                refine v_ca rfl ?_
                refine c_taking hkk hsk (fun e => by rw [hs] at e; cases e) (fun a b c e _ => ?_) (fun a b c e z => by rw [hs] at e; cases e; exact absurd hlw z)
                refine v_go rfl ?_
                refine v_bT rfl rfl ?_
                refine v_go rfl ?_
                refine v_bF rfl hwn ?_
                refine v_go rfl ?_
                refine v_ca rfl ?_
                refine c_faulted ?_
                rw [m_up_ii]
                exact v_rt rfl trivial h
            · have hsk : shM k D (sh k) := hI.2.2.2.1 k hk
              refine ypre D Q ?_
              refine c_cellsBarred hk hsk h60 hwb (fun e => by rw [hs] at e; cases e) (fun a b c e z => by rw [hs] at e; cases e; exact absurd hlw z) (fun a b c e _ z => ?_) (fun a b c e _ z => absurd z (by rw [w64']; omega)) (fun a b c e _ z => absurd z.2.1 (by rw [w64']; omega))
              refine v_go rfl ?_
              refine v_bF rfl (by decide) ?_
              exact v_go rfl (v_rt rfl trivial (h _ ((frM.refl _).up (by omega)) (InvM_fl _ hI)))
          · have hwn : (0 : Int32) ≤ w := by
              rw [Int32.le_iff_toInt_le, Int32.toInt_zero]
              omega
            by_cases hr : rng u w.toInt n
            · obtain ⟨a, m, rfl, rfl, ham⟩ := rng_of hr (by omega)
              have xpre2 : ∀ (D : m_D) (Q : m_K), InvC (S, rd, sh, tr, fl) D → m_call L 7 22 [.ref 21, .ref (24 + 2 * k), .int (nI a), .int (nI m), .ref 8] (m_up D 0 9 0) (fun r D' => m_V L 7 Q t_X4_shower 1 (m_beh 96 [some (.ref 0), some (.int (nI k)), some (.int y), some (.int (nI a)), some (.int (nI m)), some (.ref (24 + 2 * k)), some (.int 0), none] [] r D')) → m_call L 8 30 [.ref 0, .int (nI k), .int y, .int (nI a), .int (nI m)] D Q := by
                intro D Q hI hk2
                have hsk : shC k (m_up D 0 9 0) (sh k) := (InvC_fl 0 hI).2.2.2.1 k hk
                have hsk2 := hsk
                rw [hs] at hsk2
                obtain ⟨k1, k2, k3, k4⟩ := hsk2
                refine xpre D Q ?_
                rcases hk4 with rfl | rfl | rfl | rfl
                all_goals
                  refine v_go rfl ?_
                  refine v_ca rfl ?_
                  refine c_taking hkk hsk (fun e => by rw [hs] at e; cases e) (fun a b c e _ => ?_) (fun a b c e z => by rw [hs] at e; cases e; exact absurd hlw z)
                  refine v_go rfl ?_
                  refine v_bT rfl rfl ?_
                  refine v_go rfl ?_
                  refine v_bT rfl hwn ?_
                  refine v_go rfl ?_
                  refine v_ca rfl ?_
                  refine c_hasCells hkk k3 hn60 (fun _ => ?_) (fun z => absurd hr z)
                  refine v_go rfl ?_
                  refine v_bT rfl (by decide) ?_
                  refine v_go rfl ?_
                  exact v_ca rfl hk2
              have e60 : (60 : Int32) * nI k + nI a = nI (60 * k + a) := by rw [show (60 : Int32) = nI 60 from rfl, pk_mul, nI_add]
              have ypre2 : ∀ (D : m_D) (Q : m_K), InvM (S, rd, sh, tr, fl) D → m_call L 7 105 [.ref 34, .int (nI (60 * k + a)), .int (nI m)] D (fun r D' => m_V L 7 Q t_X5_shower 1 (m_beh 64 [some (.ref 34), some (.int (nI k)), some (.int y), some (.int (nI a)), some (.int (nI m)), some (.int 0), none] [] r D')) → m_call L 8 107 [.ref 34, .int (nI k), .int y, .int (nI a), .int (nI m)] D Q := by
                intro D Q hI hk2
                have hsk : shM k D (sh k) := hI.2.2.2.1 k hk
                refine ypre D Q ?_
                refine c_cellsBarred hk hsk h60 hwb (fun e => by rw [hs] at e; cases e) (fun a b c e z => by rw [hs] at e; cases e; exact absurd hlw z) (fun a b c e _ z => absurd z (by rw [w64']; omega)) (fun a b c e _ _ z => ?_) (fun a b c e _ _ => ?_)
                · rw [hs] at e
                  cases e
                  exact absurd (by rw [w64']; exact hr) z
                · refine v_go rfl ?_
                  refine v_bT rfl (by decide) ?_
                  refine v_go rfl ?_
                  rw [e60]
                  exact v_ca rfl hk2
              cases hq : q_text (fun j => f (a + j)) m with
              | inl p =>
                refine ⟨-100 - nI p, (S, rd, sh, tr, 0), okZ_fl hz, fun D Q hI h => ?_, fun D Q hI h => ?_⟩
                · have hI0 := InvC_fl 0 hI
                  have hsk : shC k (m_up D 0 9 0) (sh k) := hI0.2.2.2.1 k hk
                  rw [hs] at hsk
                  obtain ⟨k1, k2, k3, k4⟩ := hsk
                  refine xpre2 D Q hI ?_
                  refine c_firstFault hk hn60 ham k4 (fun p' D3 hq' hf3 hp => ?_) (fun k' c' D3 hq' _ _ _ _ => by rw [hq] at hq'; cases hq')
                  rw [hq] at hq'
                  cases hq'
                  have hI3 := InvC_keep hI0 (D' := D3) (fun a ha => hf3 a (by
                    simp only [z_TR, List.mem_cons, List.not_mem_nil, or_false]
                    omega))
                  refine v_go rfl ?_
                  refine v_bF rfl (nI_m9 (by omega)) ?_
                  exact v_go rfl (v_rt rfl trivial (h D3 (((frC.refl D).up (by omega)).trans (frC.of hf3 (by decide))) hI3))
                · have hsk : shM k D (sh k) := hI.2.2.2.1 k hk
                  rw [hs] at hsk
                  obtain ⟨k1, k2, k3⟩ := hsk
                  refine ypre2 D Q hI ?_
                  refine c_readsShower (g := fun j => f (a + j)) (fun j hj => by rw [Nat.add_assoc]; exact k3 (a + j) (by omega)) (by omega) (by omega) (fun p' D3 hq' hf3 hp a9 => ?_) (fun k' c' D3 hq' _ _ _ _ _ _ _ => by rw [hq] at hq'; cases hq')
                  rw [hq] at hq'
                  cases hq'
                  have hI3 := InvM_keep hI (D' := D3) (fun a ha => hf3.1 a (by
                    simp only [z_RT, List.mem_cons, List.not_mem_nil, or_false]
                    omega) (by omega)) (fun j hj => hf3.2 j (by
                    simp only [List.mem_cons, List.not_mem_nil, or_false] at hj ⊢
                    omega))
                  refine v_go rfl ?_
                  refine v_bF rfl (by decide) ?_
                  refine v_go rfl ?_
                  rw [a9]
                  refine v_ca rfl ?_
                  refine c_refused ?_
                  exact v_rt rfl trivial (h _ ((frM.of hf3 (by decide)).up (by omega)) (InvM_fl 0 hI3))
              | inr kc =>
                obtain ⟨k', c'⟩ := kc
                have hq2 := hq
                by_cases hgood : okS (qS (fun j => f (a + j)) k' c') ∧ 1 ≤ k' ∧ 1 ≤ c'
                · obtain ⟨hoQ, hk1, hc1⟩ := hgood
                  refine ⟨nI c', (qS (fun j => f (a + j)) k' c', (0, rd.2), sh, tr, 0), ⟨hoQ, ⟨fun z => ?_, fun z => ?_⟩, Nat.zero_le _, fun i hi => absurd hi (Nat.not_lt_zero _), hz.2.2.2.2⟩, fun D Q hI h => ?_, fun D Q hI h => ?_⟩
                  · have z : k' = 0 := z
                    omega
                  · have z : c' = 0 := z
                    omega
                  · have hI0 := InvC_fl 0 hI
                    have hsk : shC k (m_up D 0 9 0) (sh k) := hI0.2.2.2.1 k hk
                    rw [hs] at hsk
                    obtain ⟨k1, k2, k3, k4⟩ := hsk
                    refine xpre2 D Q hI ?_
                    refine c_firstFault hk hn60 ham k4 (fun p' D3 hq' hf3 hp => by rw [hq] at hq'; cases hq') (fun k2' c2' D3 hq' hf3 _ ho3 hr3 => ?_)
                    rw [hq] at hq'
                    cases hq'
                    refine v_go rfl ?_
                    refine v_bT rfl rfl ?_
                    refine v_go rfl ?_
                    refine v_ca rfl ?_
                    refine c_become2 hr3 ho3 (fun D4 hf4 hr4 => ?_)
                    have hI4 := InvC_S (S' := qS (fun j => f (a + j)) k' c') hI0 hr4 (fun q hq => (hf4 q (by
                      simp only [List.mem_cons, List.not_mem_nil, or_false]
                      omega)).trans (hf3 q (by
                      simp only [z_TR, List.mem_cons, List.not_mem_nil, or_false]
                      omega)))
                    have hfr : frC D (m_up D4 0 7 0) := ((((frC.refl D).up (by omega)).trans (frC.of hf3 (by decide))).trans (frC.of hf4 (by decide))).up (by omega)
                    have h := h (m_up D4 0 7 0) hfr ⟨relC_c (fun i hi => m_up_ne (by omega)) hI4.1, m_up_s, fun i hi => absurd hi (Nat.not_lt_zero _), fun q hq => shC_keep (m_up_ne (by omega)) (m_up_ne (by omega)) (hI4.2.2.2.1 q hq), (m_up_n (by decide)).trans hI4.2.2.2.2.1, (m_up_n (by decide)).trans hI4.2.2.2.2.2⟩
                    have e1 : m_up D4 0 7 0 1 1 = nI c' := hr4.2.1
                    refine v_go rfl ?_
                    rw [e1]
                    exact v_rt rfl trivial h
                  · have hsk : shM k D (sh k) := hI.2.2.2.1 k hk
                    rw [hs] at hsk
                    obtain ⟨k1, k2, k3⟩ := hsk
                    refine ypre2 D Q hI ?_
                    refine c_readsShower (g := fun j => f (a + j)) (fun j hj => by rw [Nat.add_assoc]; exact k3 (a + j) (by omega)) (by omega) (by omega) (fun p' D3 hq' hf3 hp a9 => by rw [hq] at hq'; cases hq') (fun k2' c2' D3 hq' hf3 hkc ho3 b10 b11 hrL hrC => ?_)
                    rw [hq] at hq'
                    cases hq'
                    refine v_go rfl ?_
                    refine v_bT rfl (by decide) ?_
                    refine y_take hkc.1 hkc.2 hf3 b10 b11 hrL hrC (fun D4 hf4 hr4 h26 => ?_)
                    have e : ∀ q, 54 ≤ q ∧ q ≤ 58 → D4 q = D q := fun q hq => hf4.1 q (by
                      simp only [z_SH, List.mem_cons, List.not_mem_nil, or_false]
                      omega) (by omega)
                    refine h _ ((frM.of hf4 (by decide)).up (by omega)) (InvM_fl (fl := fl) 0 ⟨hr4, h26, fun i hi => absurd hi (Nat.not_lt_zero _), fun q hq => shM_keep (e 56 (by omega)) (e 57 (by omega)) (e 58 (by omega)) (hI.2.2.2.1 q hq), ?_, ?_⟩)
                    · rw [hf4.2 33 (by simp)]
                      exact hI.2.2.2.2.1
                    · rw [hf4.2 0 (by simp)]
                      exact hI.2.2.2.2.2
                · exfalso
                  apply hgood
                  exact q_text_ok hq
            · refine ⟨-10 - 3, (S, rd, sh, tr, 3), okZ_fl hz, fun D Q hI h => ?_, fun D Q hI h => ?_⟩
              · have hsk : shC k (m_up D 0 9 0) (sh k) := (InvC_fl 0 hI).2.2.2.1 k hk
                have hsk2 := hsk
                rw [hs] at hsk2
                obtain ⟨k1, k2, k3, k4⟩ := hsk2
                have h := h (m_up D 0 9 3) ((frC.refl _).up (by omega)) (InvC_fl _ hI)
                refine xpre D Q ?_
                rcases hk4 with rfl | rfl | rfl | rfl
                all_goals
                  refine v_go rfl ?_
                  refine v_ca rfl ?_
                  refine c_taking hkk hsk (fun e => by rw [hs] at e; cases e) (fun a b c e _ => ?_) (fun a b c e z => by rw [hs] at e; cases e; exact absurd hlw z)
                  refine v_go rfl ?_
                  refine v_bT rfl rfl ?_
                  refine v_go rfl ?_
                  refine v_bT rfl hwn ?_
                  refine v_go rfl ?_
                  refine v_ca rfl ?_
                  refine c_hasCells hkk k3 hn60 (fun z => absurd z hr) (fun _ => ?_)
                  refine v_go rfl ?_
                  refine v_bF rfl (by decide) ?_
                  refine v_go rfl ?_
                  refine v_ca rfl ?_
                  refine c_faulted ?_
                  rw [m_up_ii]
                  exact v_rt rfl trivial h
              · have hsk : shM k D (sh k) := hI.2.2.2.1 k hk
                refine ypre D Q ?_
                refine c_cellsBarred hk hsk h60 hwb (fun e => by rw [hs] at e; cases e) (fun a b c e z => by rw [hs] at e; cases e; exact absurd hlw z) (fun a b c e _ z => absurd z (by rw [w64']; omega)) (fun a b c e _ _ z => ?_) (fun a b c e _ z => ?_)
                · refine v_go rfl ?_
                  refine v_bF rfl (by decide) ?_
                  exact v_go rfl (v_rt rfl trivial (h _ ((frM.refl _).up (by omega)) (InvM_fl _ hI)))
                · rw [hs] at e
                  cases e
                  rw [w64'] at z
                  exact absurd z hr
        · refine ⟨-10 - 2, (S, rd, sh, tr, 2), okZ_fl hz, fun D Q hI h => ?_, fun D Q hI h => ?_⟩
          · have hsk : shC k (m_up D 0 9 0) (sh k) := (InvC_fl 0 hI).2.2.2.1 k hk
            have h := h (m_up D 0 9 2) ((frC.refl _).up (by omega)) (InvC_fl _ hI)
            refine xpre D Q ?_
            rcases hk4 with rfl | rfl | rfl | rfl
            all_goals
              refine v_go rfl ?_
              refine v_ca rfl ?_
              refine c_taking hkk hsk (fun e => by rw [hs] at e; cases e) (fun a b c e z => by rw [hs] at e; cases e; exact absurd z hlw) (fun a b c e z => ?_)
              refine v_go rfl ?_
              refine v_bF rfl (by decide) ?_
              refine v_go rfl ?_
              refine v_ca rfl ?_
              refine c_faulted ?_
              rw [m_up_ii]
              exact v_rt rfl trivial h
          · have hsk : shM k D (sh k) := hI.2.2.2.1 k hk
            refine ypre D Q ?_
            refine c_cellsBarred hk hsk h60 hwb (fun e => by rw [hs] at e; cases e) (fun a b c e z => ?_) (fun a b c e z => by rw [hs] at e; cases e; exact absurd z hlw) (fun a b c e z => by rw [hs] at e; cases e; exact absurd z hlw) (fun a b c e z => by rw [hs] at e; cases e; exact absurd z hlw)
            refine v_go rfl ?_
            refine v_bF rfl (by decide) ?_
            exact v_go rfl (v_rt rfl trivial (h _ ((frM.refl _).up (by omega)) (InvM_fl _ hI)))
    · refine ⟨-2, (S, rd, sh, tr, 0), okZ_fl hz, fun D Q hI h => ?_, fun D Q hI h => ?_⟩
      · have h := h (m_up D 0 9 0) ((frC.refl _).up (by omega)) (InvC_fl 0 hI)
        refine v_in (tb' := t_X4_shower) (rk' := 1) rfl rfl rfl ?_
        refine v_go rfl ?_
        refine v_ca rfl ?_
        refine c_isSheet (fun _ => ?_) (fun z => absurd hx z)
        refine v_go rfl ?_
        refine v_bT rfl (by decide) ?_
        refine v_go rfl ?_
        refine v_ca rfl ?_
        refine c_isLane (fun z => absurd z hy) (fun _ => ?_)
        refine v_go rfl ?_
        refine v_bF rfl (by decide) ?_
        exact v_go rfl (v_rt rfl trivial h)
      · refine v_in (tb' := t_X5_shower) (rk' := 1) rfl rfl rfl ?_
        refine v_go rfl ?_
        refine v_ca rfl ?_
        refine c_noSheet (fun _ => ?_) (fun z => absurd hx z)
        refine v_go rfl ?_
        refine v_bT rfl rfl ?_
        refine v_go rfl ?_
        refine v_ca rfl ?_
        refine c_in (fun p1 p2 => absurd ((in_iff (n := 3) (by decide)).mp ⟨p1, p2⟩) hy) (fun _ => ?_)
        refine v_go rfl ?_
        refine v_bF rfl (by decide) ?_
        refine v_go rfl ?_
        refine v_ca rfl ?_
        refine c_refused ?_
        exact v_rt rfl trivial (h _ ((frM.refl _).up (by omega)) (InvM_fl 0 hI))
  · refine ⟨-1, (S, rd, sh, tr, 0), okZ_fl hz, fun D Q hI h => ?_, fun D Q hI h => ?_⟩
    · refine v_in (tb' := t_X4_shower) (rk' := 1) rfl rfl rfl ?_
      refine v_go rfl ?_
      refine v_ca rfl ?_
      refine c_isSheet (fun z => absurd z hx) (fun _ => ?_)
      refine v_go rfl ?_
      refine v_bF rfl (by decide) ?_
      exact v_go rfl (v_rt rfl trivial (h _ ((frC.refl _).up (by omega)) (InvC_fl 0 hI)))
    · refine v_in (tb' := t_X5_shower) (rk' := 1) rfl rfl rfl ?_
      refine v_go rfl ?_
      refine v_ca rfl ?_
      refine c_noSheet (fun z => absurd z hx) (fun _ => ?_)
      refine v_go rfl ?_
      refine v_bF rfl (by decide) ?_
      refine v_go rfl ?_
      refine v_ca rfl ?_
      refine c_refused ?_
      exact v_rt rfl trivial (h _ ((frM.refl _).up (by omega)) (InvM_fl 0 hI))
