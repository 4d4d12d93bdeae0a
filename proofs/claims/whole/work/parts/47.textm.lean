/-! ===== texts: the reference's reader ===== -/
def cdA (g : Nat → Int32) (n p : Nat) : Int32 := if p < n then g p else -9
theorem cdA_at {g : Nat → Int32} {n p : Nat} {c : Int32} (hc : ¬ c = -9) : cdA g n p = c ↔ atb g n p c = true := by
  unfold cdA atb
  rw [decide_eq_true_eq]
  by_cases h : p < n
  · rw [if_pos h]
    exact ⟨fun z => ⟨h, z⟩, fun z => z.2⟩
  · rw [if_neg h]
    exact ⟨fun z => absurd z.symm hc, fun z => absurd z.1 h⟩
def shG (g : Nat → Int32) (n b : Nat) (D : m_D) : Prop := ∀ j, j < n → D 58 (b + j) = g j
theorem c_codeAt {L d n b p : Nat} {g : Nat → Int32} {D : m_D} {Q : m_K} (hs : shG g n b D) (hb : b + n ≤ 240) (hp : p ≤ n) (h9 : D 34 9 = nI p) (h : Q (some (.int (cdA g n p))) D) : m_call L (d + 1) 101 [.ref 34, .int (nI b), .int (nI n)] D Q := by
  unfold cdA at h
  refine v_in (tb' := t_X5_codeAt) (rk' := 1) rfl rfl rfl ?_
  refine v_go rfl ?_
  rw [h9]
  by_cases hpn : p < n
  · rw [if_pos hpn] at h
    refine v_bF rfl (nI_ge hpn (by omega)) ?_
    refine v_go rfl ?_
    rw [h9, nI_add]
    refine v_sd rfl (vp_in_nI (by omega) (by omega)) ?_
    rw [nI_clamp (by omega), hs p hpn]
    exact v_go rfl (v_rt rfl trivial h)
  · rw [if_neg hpn] at h
    refine v_bT rfl (nI_le (by omega) (by omega)) ?_
    exact v_go rfl (v_rt rfl trivial h)
theorem c_figure {L d n b p lo hi : Nat} {g : Nat → Int32} {D : m_D} {Q : m_K} (hs : shG g n b D) (hb : b + n ≤ 240) (hp : p ≤ n) (h9 : D 34 9 = nI p) (hlo : lo ≤ 9) (hhi : hi ≤ 9) (h1 : dgb g n p lo hi = true → Q (some (.int (nI (dgv (g p))))) (m_up D 34 9 (nI (p + 1)))) (h0 : dgb g n p lo hi = false → Q (some (.int (-9))) D) : m_call L (d + 2) 102 [.ref 34, .int (nI b), .int (nI n), .int (nI lo), .int (nI hi)] D Q := by
  refine v_in (tb' := t_X5_figure) (rk' := 1) rfl rfl rfl ?_
  refine v_go rfl ?_
  refine v_ca rfl ?_
  refine c_codeAt hs hb hp h9 ?_
  refine v_go rfl ?_
  refine v_ca rfl ?_
  have t48 : (48 : Int32).toInt = 48 := by decide
  have tm9 : (-9 : Int32).toInt = -9 := by decide
  have key : ((nI lo).toInt64 ≤ (cdA g n p - 48).toInt64 ∧ (cdA g n p - 48).toInt64 ≤ (nI hi).toInt64) ↔ dgb g n p lo hi = true := by
    unfold dgb cdA
    rw [decide_eq_true_eq, Int64.le_iff_toInt_le, Int64.le_iff_toInt_le, Int32.toInt_toInt64, Int32.toInt_toInt64, Int32.toInt_toInt64, nI_toInt (by omega), nI_toInt (by omega), Int32.toInt_sub, t48]
    by_cases h : p < n
    · rw [if_pos h]
      have q1 := Int32.toInt_lt (g p)
      have q2 := Int32.le_toInt (g p)
      rw [Int.bmod_def]
      constructor
      · intro z
        refine ⟨h, ?_⟩
        split at z
        · omega
        · omega
      · intro z
        split
        · omega
        · omega
    · rw [if_neg h, tm9]
      constructor
      · intro z
        exact absurd z.1 (by
          rw [Int.bmod_def]
          split <;> omega)
      · intro z
        exact absurd z.1 h
  refine c_in (fun p1 p2 => ?_) (fun z => ?_)
  · have hd := key.mp ⟨p1, p2⟩
    have hpn := (dgb_t hd).1
    have hd2 := of_decide_eq_true hd
    obtain ⟨ev, hv1, hv2⟩ := dgv_eq hd2.2.1 hd2.2.2
    have es : cdA g n p - 48 = nI (dgv (g p)) := by
      unfold cdA
      rw [if_pos hpn, ev, show (48 : Int32) = nI 48 from rfl, pk_sub (by omega), ← ev, show 48 + dgv (g p) - 48 = dgv (g p) by omega]
    refine v_go rfl ?_
    refine v_bT rfl (by decide) ?_
    refine v_go rfl ?_
    rw [h9, nI_1, es]
    exact v_rt rfl trivial (h1 hd)
  · have hd : dgb g n p lo hi = false := by
      cases e : dgb g n p lo hi with
      | false => rfl
      | true => exact absurd (key.mpr e) z
    refine v_go rfl ?_
    refine v_bF rfl (by decide) ?_
    exact v_go rfl (v_rt rfl trivial (h0 hd))
theorem c_readsLine {L d n b p l : Nat} {g : Nat → Int32} {D : m_D} {Q : m_K} (hs : shG g n b D) (hn : n ≤ 60) (hb : b + n ≤ 240) (hp : p ≤ n) (hl : l < 6) (h9 : D 34 9 = nI p) (h10 : D 34 10 = nI l) (h1 : f_line g n p = none → ∀ D', m_fM [41, 42] [9, 10] D D' → D' 34 9 = nI (p + 3) → D' 34 10 = nI (l + 1) → D' 41 l = nI (dgv (g (p + 1))) → D' 42 l = nI (dgv (g (p + 2))) → (∀ j, j ≠ l → D' 41 j = D 41 j ∧ D' 42 j = D 42 j) → Q (some (.int 1)) D') (h0 : ∀ q, f_line g n p = some q → q ≤ n → ∀ D', m_fM [41, 42] [9, 10] D D' → D' 34 9 = nI q → Q (some (.int 0)) D') : m_call L (d + 3) 103 [.ref 34, .int (nI b), .int (nI n)] D Q := by
  have hin : vp_in (nI l) 6 := vp_in_nI (by omega) (by omega)
  have hcl : (nI l).toNatClampNeg = l := nI_clamp (by omega)
  have hf0 : m_fM [41, 42] [9, 10] D D := m_fM.refl _ _ _
  have sG : ∀ D1, m_fM [41, 42] [9, 10] D D1 → shG g n b D1 := fun D1 hf j hj => by
    rw [hf.1 58 (by simp) (by decide)]
    exact hs j hj
  have s84 : ∀ (D1 : m_D) (v : Int32) (q : Nat), m_fM [41, 42] [9, 10] D D1 → D1 34 9 = nI q → D1 34 10 = nI l → D1 42 l = v → (v < 0 → ∀ D', m_fM [41, 42] [9, 10] D D' → D' 34 9 = nI q → Q (some (.int 0)) D') → (¬ v < 0 → Q (some (.int 1)) (m_up D1 34 10 (nI (l + 1)))) → m_V L (d + 2) Q t_X5_readsLine 2 (84, [some (.ref 34), some (.int (nI b)), some (.int (nI n))], [], D1) := by
    intro D1 v q hf a9 a10 a42 k0 k1
    have e10 : m_up D1 34 10 (nI (l + 1)) 34 10 = nI (l + 1) := m_up_s
    have e42 : m_up D1 34 10 (nI (l + 1)) 42 l = v := a42
    refine v_go rfl ?_
    rw [a10, nI_1, e10, nI_pred]
    refine v_sd rfl hin ?_
    rw [hcl, e42]
    refine v_br rfl (fun z => ?_) (fun z => ?_)
    · exact v_go rfl (v_rt rfl (Or.inl rfl) (k0 z _ (hf.upF (by simp)) ((m_up_n (by decide)).trans a9)))
    · exact v_go rfl (v_rt rfl (Or.inr rfl) (k1 z))
  unfold f_line at h1 h0
  refine v_in (tb' := t_X5_readsLine) (rk' := 2) rfl rfl rfl ?_
  refine v_go rfl ?_
  rw [h10]
  refine v_bF rfl (fun z => ?_) ?_
  · have := (nI_eq (b := 6) (by omega) (by omega)).mp z
    omega
  refine v_go rfl ?_
  refine v_ca rfl ?_
  refine c_codeAt hs hb hp h9 ?_
  refine v_go rfl ?_
  refine v_br rfl (fun z => ?_) (fun z => ?_)
  · have z := (cdA_at (by decide)).mp z
    have zp := (atb_t z).1
    rw [z, if_neg (by decide)] at h1 h0
    refine v_go rfl ?_
    rw [h9, nI_1]
    have hfA : m_fM [41, 42] [9, 10] D (m_up D 34 9 (nI (p + 1))) := hf0.upF (by simp)
    have a9 : m_up D 34 9 (nI (p + 1)) 34 9 = nI (p + 1) := m_up_s
    have a10 : m_up D 34 9 (nI (p + 1)) 34 10 = nI l := (m_up_n (by decide)).trans h10
    have a41 : m_up D 34 9 (nI (p + 1)) 41 = D 41 := rfl
    have a42 : m_up D 34 9 (nI (p + 1)) 42 = D 42 := rfl
    generalize m_up D 34 9 (nI (p + 1)) = D1 at hfA a9 a10 a41 a42 ⊢
    rw [a10]
    refine v_ca rfl ?_
    refine c_figure (lo := 0) (hi := 9) (sG D1 hfA) hb (by omega) a9 (by omega) (by omega) (fun z2 => ?_) (fun z2 => ?_)
    · have zp2 := dgb_t z2
      rw [z2, if_neg (by decide)] at h1 h0
      have hfB : m_fM [41, 42] [9, 10] D (m_up D1 34 9 (nI (p + 1 + 1))) := hfA.upF (by simp)
      have b9 : m_up D1 34 9 (nI (p + 1 + 1)) 34 9 = nI (p + 2) := m_up_s
      have b10 : m_up D1 34 9 (nI (p + 1 + 1)) 34 10 = nI l := (m_up_n (by decide)).trans a10
      have b41 : m_up D1 34 9 (nI (p + 1 + 1)) 41 = D 41 := a41
      have b42 : m_up D1 34 9 (nI (p + 1 + 1)) 42 = D 42 := a42
      generalize m_up D1 34 9 (nI (p + 1 + 1)) = D2 at hfB b9 b10 b41 b42 ⊢
      refine v_go rfl ?_
      refine v_sd rfl hin ?_
      rw [hcl]
      have hfC : m_fM [41, 42] [9, 10] D (m_up D2 41 l (nI (dgv (g (p + 1))))) := hfB.up (by simp) (by decide)
      have c9 : m_up D2 41 l (nI (dgv (g (p + 1)))) 34 9 = nI (p + 2) := b9
      have c10 : m_up D2 41 l (nI (dgv (g (p + 1)))) 34 10 = nI l := b10
      have c41 : m_up D2 41 l (nI (dgv (g (p + 1)))) 41 l = nI (dgv (g (p + 1))) := m_up_s
      have c41o : ∀ j, j ≠ l → m_up D2 41 l (nI (dgv (g (p + 1)))) 41 j = D 41 j := fun j hj => (m_up_n hj).trans (congrFun b41 j)
      have c42 : m_up D2 41 l (nI (dgv (g (p + 1)))) 42 = D 42 := b42
      generalize m_up D2 41 l (nI (dgv (g (p + 1)))) = D3 at hfC c9 c10 c41 c41o c42 ⊢
      refine v_go rfl ?_
      rw [c10]
      refine v_sd rfl hin ?_
      rw [hcl, c41]
      refine v_bT rfl (nI_pos' (by omega)) ?_
      refine v_go rfl ?_
      refine v_ca rfl ?_
      refine c_figure (lo := 0) (hi := 3) (sG D3 hfC) hb (by omega) c9 (by omega) (by omega) (fun z3 => ?_) (fun z3 => ?_)
      · have zp3 := dgb_t z3
        rw [z3, if_neg (by decide)] at h1
        have h1 := h1 rfl
        have hfE : m_fM [41, 42] [9, 10] D (m_up D3 34 9 (nI (p + 2 + 1))) := hfC.upF (by simp)
        have e9 : m_up D3 34 9 (nI (p + 2 + 1)) 34 9 = nI (p + 3) := m_up_s
        have e10 : m_up D3 34 9 (nI (p + 2 + 1)) 34 10 = nI l := (m_up_n (by decide)).trans c10
        have e41 : m_up D3 34 9 (nI (p + 2 + 1)) 41 = D3 41 := rfl
        have e42 : m_up D3 34 9 (nI (p + 2 + 1)) 42 = D 42 := c42
        generalize m_up D3 34 9 (nI (p + 2 + 1)) = D4 at hfE e9 e10 e41 e42 ⊢
        refine v_go rfl ?_
        refine v_sd rfl hin ?_
        rw [hcl]
        refine s84 _ (nI (dgv (g (p + 2)))) (p + 3) (hfE.up (by simp) (by decide)) e9 e10 m_up_s (fun y => absurd y (nI_pos (by omega))) (fun _ => ?_)
        refine h1 _ ((hfE.up (by simp) (by decide)).upF (by simp)) ((m_up_n (by decide)).trans e9) m_up_s ?_ ?_ (fun j hj => ⟨?_, ?_⟩)
        · rw [m_up_ne (by decide), m_up_ne (by decide), e41]
          exact c41
        · rw [m_up_ne (by decide)]
          exact m_up_s
        · rw [m_up_ne (by decide), m_up_ne (by decide), e41]
          exact c41o j hj
        · rw [m_up_ne (by decide), m_up_n hj, e42]
      · rw [z3, if_pos rfl] at h0
        refine v_go rfl ?_
        refine v_sd rfl hin ?_
        rw [hcl]
        exact s84 _ (-9) (p + 2) (hfC.up (by simp) (by decide)) c9 c10 m_up_s (fun _ D' hf' a9' => h0 _ rfl (by omega) D' hf' a9') (fun y => absurd (by decide) y)
    · rw [z2, if_pos rfl] at h0
      refine v_go rfl ?_
      refine v_sd rfl hin ?_
      rw [hcl]
      have hfC : m_fM [41, 42] [9, 10] D (m_up D1 41 l (-9)) := hfA.up (by simp) (by decide)
      have c9 : m_up D1 41 l (-9) 34 9 = nI (p + 1) := a9
      have c10 : m_up D1 41 l (-9) 34 10 = nI l := a10
      have c41 : m_up D1 41 l (-9) 41 l = -9 := m_up_s
      generalize m_up D1 41 l (-9) = D3 at hfC c9 c10 c41 ⊢
      refine v_go rfl ?_
      rw [c10]
      refine v_sd rfl hin ?_
      rw [hcl, c41]
      refine v_bF rfl (by decide) ?_
      refine v_go rfl ?_
      refine v_sd rfl hin ?_
      rw [hcl]
      exact s84 _ (-9) (p + 1) (hfC.up (by simp) (by decide)) c9 c10 m_up_s (fun _ D' hf' a9' => h0 _ rfl (by omega) D' hf' a9') (fun y => absurd (by decide) y)
  · have z : atb g n p 44 = false := by
      cases e : atb g n p 44 with
      | false => rfl
      | true => exact absurd ((cdA_at (by decide)).mpr e) z
    rw [z, if_pos rfl] at h0
    exact v_go rfl (v_rt rfl (Or.inl rfl) (h0 p rfl hp D hf0 h9))
theorem c_readsLine6 {L d n b : Nat} {D : m_D} {Q : m_K} (h10 : D 34 10 = nI 6) (h : Q (some (.int 0)) D) : m_call L (d + 1) 103 [.ref 34, .int (nI b), .int (nI n)] D Q := by
  refine v_in (tb' := t_X5_readsLine) (rk' := 2) rfl rfl rfl ?_
  refine v_go rfl ?_
  rw [h10]
  refine v_bT rfl rfl ?_
  exact v_go rfl (v_rt rfl (Or.inl rfl) h)
theorem c_readsCrier3 {L d n b : Nat} {D : m_D} {Q : m_K} (h11 : D 34 11 = nI 3) (h : Q (some (.int 0)) D) : m_call L (d + 1) 104 [.ref 34, .int (nI b), .int (nI n)] D Q := by
  refine v_in (tb' := t_X5_readsCrier) (rk' := 2) rfl rfl rfl ?_
  refine v_go rfl ?_
  rw [h11]
  refine v_bT rfl rfl ?_
  exact v_go rfl (v_rt rfl (Or.inl rfl) h)
theorem c_readsCrier {L d n b p c k : Nat} {g : Nat → Int32} {D : m_D} {Q : m_K} (hs : shG g n b D) (hn : n ≤ 60) (hb : b + n ≤ 240) (hp : p ≤ n) (hc : c < 3) (hk : 1 ≤ k ∧ k ≤ 6) (h9 : D 34 9 = nI p) (h10 : D 34 10 = nI k) (h11 : D 34 11 = nI c) (h1 : f_cri g n k p = none → ∀ D', m_fM [43, 44, 45] [9, 11] D D' → D' 34 9 = nI (p + 4) → D' 34 11 = nI (c + 1) → D' 43 c = nI (kdv (g (p + 1))) → D' 44 c = nI (dgv (g (p + 2))) → D' 45 c = nI (dgv (g (p + 3))) → (∀ j, j ≠ c → D' 43 j = D 43 j ∧ D' 44 j = D 44 j ∧ D' 45 j = D 45 j) → Q (some (.int 1)) D') (h0 : ∀ q, f_cri g n k p = some q → q ≤ n → ∀ D', m_fM [43, 44, 45] [9, 11] D D' → D' 34 9 = nI q → Q (some (.int 0)) D') : m_call L (d + 3) 104 [.ref 34, .int (nI b), .int (nI n)] D Q := by
  have hin : vp_in (nI c) 3 := vp_in_nI (by omega) (by omega)
  have hcl : (nI c).toNatClampNeg = c := nI_clamp (by omega)
  have hf0 : m_fM [43, 44, 45] [9, 11] D D := m_fM.refl _ _ _
  have sG : ∀ D1, m_fM [43, 44, 45] [9, 11] D D1 → shG g n b D1 := fun D1 hf j hj => by
    rw [hf.1 58 (by simp) (by decide)]
    exact hs j hj
  have s152 : ∀ (D1 : m_D) (v code : Int32) (q : Nat), m_fM [43, 44, 45] [9, 11] D D1 → D1 34 9 = nI q → D1 34 11 = nI c → D1 45 c = v → (v < 0 → ∀ D', m_fM [43, 44, 45] [9, 11] D D' → D' 34 9 = nI q → Q (some (.int 0)) D') → (¬ v < 0 → Q (some (.int 1)) (m_up D1 34 11 (nI (c + 1)))) → m_V L (d + 2) Q t_X5_readsCrier 2 (152, [some (.ref 34), some (.int (nI b)), some (.int (nI n)), some (.int code), some (.int (nI c))], [], D1) := by
    intro D1 v code q hf a9 a11 a45 k0 k1
    have e45 : m_up D1 34 11 (nI (c + 1)) 45 c = v := a45
    refine v_go rfl ?_
    rw [a11, nI_1]
    refine v_sd rfl hin ?_
    rw [hcl, e45]
    refine v_br rfl (fun z => ?_) (fun z => ?_)
    · exact v_go rfl (v_rt rfl (Or.inl rfl) (k0 z _ (hf.upF (by simp)) ((m_up_n (by decide)).trans a9)))
    · exact v_go rfl (v_rt rfl (Or.inr rfl) (k1 z))
  unfold f_cri at h1 h0
  refine v_in (tb' := t_X5_readsCrier) (rk' := 2) rfl rfl rfl ?_
  refine v_go rfl ?_
  rw [h11]
  refine v_bF rfl (fun z => ?_) ?_
  · have := (nI_eq (b := 3) (by omega) (by omega)).mp z
    omega
  refine v_go rfl ?_
  refine v_ca rfl ?_
  refine c_codeAt hs hb hp h9 ?_
  refine v_go rfl ?_
  refine v_br rfl (fun z => ?_) (fun z => ?_)
  · have z := (cdA_at (by decide)).mp z
    have zp := (atb_t z).1
    rw [z, if_neg (by decide)] at h1 h0
    refine v_go rfl ?_
    rw [h9, nI_1]
    have hfA : m_fM [43, 44, 45] [9, 11] D (m_up D 34 9 (nI (p + 1))) := hf0.upF (by simp)
    have a9 : m_up D 34 9 (nI (p + 1)) 34 9 = nI (p + 1) := m_up_s
    have a10 : m_up D 34 9 (nI (p + 1)) 34 10 = nI k := (m_up_n (by decide)).trans h10
    have a11 : m_up D 34 9 (nI (p + 1)) 34 11 = nI c := (m_up_n (by decide)).trans h11
    have aR : ∀ j, m_up D 34 9 (nI (p + 1)) 43 j = D 43 j ∧ m_up D 34 9 (nI (p + 1)) 44 j = D 44 j ∧ m_up D 34 9 (nI (p + 1)) 45 j = D 45 j := fun j => ⟨rfl, rfl, rfl⟩
    generalize m_up D 34 9 (nI (p + 1)) = D1 at hfA a9 a10 a11 aR ⊢
    refine v_ca rfl ?_
    refine c_codeAt (sG D1 hfA) hb (by omega) a9 ?_
    -- from the kind on
    have s102 : ∀ (D2 : m_D) (code : Int32), kdb g n (p + 1) = true → m_fM [43, 44, 45] [9, 11] D D2 → D2 34 9 = nI (p + 2) → D2 34 10 = nI k → D2 34 11 = nI c → D2 43 c = nI (kdv (g (p + 1))) → (∀ j, j ≠ c → D2 43 j = D 43 j) → (∀ j, D2 44 j = D 44 j ∧ D2 45 j = D 45 j) → m_V L (d + 2) Q t_X5_readsCrier 2 (102, [some (.ref 34), some (.int (nI b)), some (.int (nI n)), some (.int code), some (.int (nI c))], [], D2) := by
      intro D2 code z2 hfB b9 b10 b11 b43 b43o bR
      have zp2 := (of_decide_eq_true z2).1
      rw [z2, if_neg (by decide)] at h1 h0
      refine v_go rfl ?_
      refine v_ca rfl ?_
      refine c_figure (lo := 1) (hi := 3) (sG D2 hfB) hb (by omega) b9 (by omega) (by omega) (fun z3 => ?_) (fun z3 => ?_)
      · have zp3 := dgb_t z3
        rw [z3, if_neg (by decide)] at h1 h0
        have hfC : m_fM [43, 44, 45] [9, 11] D (m_up D2 34 9 (nI (p + 2 + 1))) := hfB.upF (by simp)
        have c9 : m_up D2 34 9 (nI (p + 2 + 1)) 34 9 = nI (p + 3) := m_up_s
        have c10 : m_up D2 34 9 (nI (p + 2 + 1)) 34 10 = nI k := (m_up_n (by decide)).trans b10
        have c11 : m_up D2 34 9 (nI (p + 2 + 1)) 34 11 = nI c := (m_up_n (by decide)).trans b11
        have c43 : m_up D2 34 9 (nI (p + 2 + 1)) 43 = D2 43 := rfl
        have cR : ∀ j, m_up D2 34 9 (nI (p + 2 + 1)) 44 j = D 44 j ∧ m_up D2 34 9 (nI (p + 2 + 1)) 45 j = D 45 j := bR
        generalize m_up D2 34 9 (nI (p + 2 + 1)) = D3 at hfC c9 c10 c11 c43 cR ⊢
        refine v_go rfl ?_
        refine v_sd rfl hin ?_
        rw [hcl]
        have hfE : m_fM [43, 44, 45] [9, 11] D (m_up D3 44 c (nI (dgv (g (p + 2))))) := hfC.up (by simp) (by decide)
        have e9 : m_up D3 44 c (nI (dgv (g (p + 2)))) 34 9 = nI (p + 3) := c9
        have e10 : m_up D3 44 c (nI (dgv (g (p + 2)))) 34 10 = nI k := c10
        have e11 : m_up D3 44 c (nI (dgv (g (p + 2)))) 34 11 = nI c := c11
        have e43 : m_up D3 44 c (nI (dgv (g (p + 2)))) 43 = D2 43 := c43
        have e44 : m_up D3 44 c (nI (dgv (g (p + 2)))) 44 c = nI (dgv (g (p + 2))) := m_up_s
        have e44o : ∀ j, j ≠ c → m_up D3 44 c (nI (dgv (g (p + 2)))) 44 j = D 44 j := fun j hj => (m_up_n hj).trans (cR j).1
        have e45 : ∀ j, m_up D3 44 c (nI (dgv (g (p + 2)))) 45 j = D 45 j := fun j => (cR j).2
        generalize m_up D3 44 c (nI (dgv (g (p + 2)))) = D4 at hfE e9 e10 e11 e43 e44 e44o e45 ⊢
        refine v_go rfl ?_
        refine v_sd rfl hin ?_
        rw [hcl, e44]
        refine v_bT rfl (nI_pos' (by omega)) ?_
        refine v_go rfl ?_
        rw [e10, nI_p (by omega)]
        refine v_ca rfl ?_
        refine c_figure (lo := 0) (hi := k - 1) (sG D4 hfE) hb (by omega) e9 (by omega) (by omega) (fun z4 => ?_) (fun z4 => ?_)
        · have zp4 := dgb_t z4
          rw [z4, if_neg (by decide)] at h1
          have h1 := h1 rfl
          have hfG : m_fM [43, 44, 45] [9, 11] D (m_up D4 34 9 (nI (p + 3 + 1))) := hfE.upF (by simp)
          have g9 : m_up D4 34 9 (nI (p + 3 + 1)) 34 9 = nI (p + 4) := m_up_s
          have g11 : m_up D4 34 9 (nI (p + 3 + 1)) 34 11 = nI c := (m_up_n (by decide)).trans e11
          have g43 : m_up D4 34 9 (nI (p + 3 + 1)) 43 = D2 43 := e43
          have g44 : m_up D4 34 9 (nI (p + 3 + 1)) 44 = D4 44 := rfl
          have g45 : ∀ j, m_up D4 34 9 (nI (p + 3 + 1)) 45 j = D 45 j := e45
          generalize m_up D4 34 9 (nI (p + 3 + 1)) = D5 at hfG g9 g11 g43 g44 g45 ⊢
          refine v_go rfl ?_
          refine v_sd rfl hin ?_
          rw [hcl]
          refine s152 _ (nI (dgv (g (p + 3)))) code (p + 4) (hfG.up (by simp) (by decide)) g9 g11 m_up_s (fun y => absurd y (nI_pos (by omega))) (fun _ => ?_)
          refine h1 _ ((hfG.up (by simp) (by decide)).upF (by simp)) ((m_up_n (by decide)).trans g9) m_up_s ?_ ?_ ?_ (fun j hj => ⟨?_, ?_, ?_⟩)
          · rw [m_up_ne (by decide), m_up_ne (by decide), g43]
            exact b43
          · rw [m_up_ne (by decide), m_up_ne (by decide), g44]
            exact e44
          · rw [m_up_ne (by decide)]
            exact m_up_s
          · rw [m_up_ne (by decide), m_up_ne (by decide), g43]
            exact b43o j hj
          · rw [m_up_ne (by decide), m_up_ne (by decide), g44]
            exact e44o j hj
          · rw [m_up_ne (by decide), m_up_n hj]
            exact g45 j
        · rw [z4, if_pos rfl] at h0
          refine v_go rfl ?_
          refine v_sd rfl hin ?_
          rw [hcl]
          exact s152 _ (-9) code (p + 3) (hfE.up (by simp) (by decide)) e9 e11 m_up_s (fun _ D' hf' a9' => h0 _ rfl (by omega) D' hf' a9') (fun y => absurd (by decide) y)
      · rw [z3, if_pos rfl] at h0
        refine v_go rfl ?_
        refine v_sd rfl hin ?_
        rw [hcl]
        have hfE : m_fM [43, 44, 45] [9, 11] D (m_up D2 44 c (-9)) := hfB.up (by simp) (by decide)
        have e9 : m_up D2 44 c (-9) 34 9 = nI (p + 2) := b9
        have e11 : m_up D2 44 c (-9) 34 11 = nI c := b11
        have e44 : m_up D2 44 c (-9) 44 c = -9 := m_up_s
        generalize m_up D2 44 c (-9) = D4 at hfE e9 e11 e44 ⊢
        refine v_go rfl ?_
        refine v_sd rfl hin ?_
        rw [hcl, e44]
        refine v_bF rfl (by decide) ?_
        refine v_go rfl ?_
        refine v_sd rfl hin ?_
        rw [hcl]
        exact s152 _ (-9) code (p + 2) (hfE.up (by simp) (by decide)) e9 e11 m_up_s (fun _ D' hf' a9' => h0 _ rfl (by omega) D' hf' a9') (fun y => absurd (by decide) y)
    have s58 : ∀ (v : Nat) (code : Int32), kdb g n (p + 1) = true → v = kdv (g (p + 1)) → (∀ D2 : m_D, m_V L (d + 2) Q t_X5_readsCrier 2 (101, [some (.ref 34), some (.int (nI b)), some (.int (nI n)), some (.int code), some (.int (nI c))], [.int (nI v), .int (nI c), .ref 43], D2) → m_V L (d + 2) Q t_X5_readsCrier 2 (80, [some (.ref 34), some (.int (nI b)), some (.int (nI n)), some (.int code), some (.int (nI c))], [.int (nI c), .ref 43], D2)) → m_V L (d + 2) Q t_X5_readsCrier 2 (58, [some (.ref 34), some (.int (nI b)), some (.int (nI n)), some (.int code), none], [], D1) := by
      intro v code z2 hv hgo
      have hfB : m_fM [43, 44, 45] [9, 11] D (m_up D1 34 9 (nI (p + 1 + 1))) := hfA.upF (by simp)
      have b9 : m_up D1 34 9 (nI (p + 1 + 1)) 34 9 = nI (p + 2) := m_up_s
      have b10 : m_up D1 34 9 (nI (p + 1 + 1)) 34 10 = nI k := (m_up_n (by decide)).trans a10
      have b11 : m_up D1 34 9 (nI (p + 1 + 1)) 34 11 = nI c := (m_up_n (by decide)).trans a11
      have bR : ∀ j, m_up D1 34 9 (nI (p + 1 + 1)) 43 j = D 43 j ∧ m_up D1 34 9 (nI (p + 1 + 1)) 44 j = D 44 j ∧ m_up D1 34 9 (nI (p + 1 + 1)) 45 j = D 45 j := aR
      refine v_run 11 rfl ?_
      rw [a9, nI_1]
      generalize m_up D1 34 9 (nI (p + 1 + 1)) = D2 at hfB b9 b10 b11 bR ⊢
      rw [b11]
      refine v_run 1 rfl ?_
      refine hgo D2 ?_
      refine v_sd rfl hin ?_
      rw [hcl]
      exact s102 _ code z2 (hfB.up (by simp) (by decide)) b9 b10 b11 (by rw [hv]; exact m_up_s) (fun j hj => (m_up_n hj).trans (bR j).1) (fun j => (bR j).2)
    refine v_go rfl ?_
    refine v_br rfl (fun y1 => ?_) (fun y1 => ?_)
    · have y := atb_t ((cdA_at (by decide)).mp y1)
      refine s58 0 _ (decide_eq_true ⟨y.1, Or.inl y.2⟩) ?_ (fun D2 hgo => ?_)
      · unfold kdv
        rw [if_pos y.2]
      · refine v_go rfl ?_
        refine v_bF rfl (fun z => z y1) ?_
        exact v_run 2 rfl hgo
    · refine v_go rfl ?_
      refine v_br rfl (fun y2 => ?_) (fun y2 => ?_)
      · have y := atb_t ((cdA_at (by decide)).mp y2)
        refine s58 1 _ (decide_eq_true ⟨y.1, Or.inr (Or.inl y.2)⟩) ?_ (fun D2 hgo => ?_)
        · unfold kdv
          rw [y.2, if_neg (by decide), if_pos rfl]
        · refine v_go rfl ?_
          refine v_bT rfl y1 ?_
          refine v_go rfl ?_
          refine v_bF rfl (fun z => z y2) ?_
          exact v_run 2 rfl hgo
      · refine v_go rfl ?_
        refine v_br rfl (fun y3 => ?_) (fun y3 => ?_)
        · have y := atb_t ((cdA_at (by decide)).mp y3)
          refine s58 2 _ (decide_eq_true ⟨y.1, Or.inr (Or.inr y.2)⟩) ?_ (fun D2 hgo => ?_)
          · unfold kdv
            rw [y.2, if_neg (by decide), if_neg (by decide)]
          · refine v_go rfl ?_
            refine v_bT rfl y1 ?_
            refine v_go rfl ?_
            refine v_bT rfl y2 ?_
            exact v_run 1 rfl hgo
        · have zk : kdb g n (p + 1) = false := decide_eq_false (fun y => y.2.elim (fun q => y1 ((cdA_at (by decide)).mpr (decide_eq_true ⟨y.1, q⟩))) (fun q => q.elim (fun q => y2 ((cdA_at (by decide)).mpr (decide_eq_true ⟨y.1, q⟩))) (fun q => y3 ((cdA_at (by decide)).mpr (decide_eq_true ⟨y.1, q⟩)))))
          rw [zk, if_pos rfl] at h0
          exact v_go rfl (v_rt rfl (Or.inl rfl) (h0 _ rfl (by omega) D1 hfA a9))
  · have z : atb g n p 59 = false := by
      cases e : atb g n p 59 with
      | false => rfl
      | true => exact absurd ((cdA_at (by decide)).mpr e) z
    rw [z, if_pos rfl] at h0
    exact v_go rfl (v_rt rfl (Or.inl rfl) (h0 p rfl hp D hf0 h9))
