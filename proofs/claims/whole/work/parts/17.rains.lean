/-! ===== the reference's rain ===== -/
def m_fM (Z F : List Nat) (D D' : m_D) : Prop := (∀ a, a ∉ Z → a ≠ 34 → D' a = D a) ∧ ∀ j, j ∉ F → D' 34 j = D 34 j
theorem m_fM.refl (Z F : List Nat) (D : m_D) : m_fM Z F D D := ⟨fun _ _ _ => rfl, fun _ _ => rfl⟩
theorem m_fM.trans {Z F : List Nat} {D D1 D2 : m_D} (h : m_fM Z F D D1) (g : m_fM Z F D1 D2) : m_fM Z F D D2 := ⟨fun a ha hb => (g.1 a ha hb).trans (h.1 a ha hb), fun j hj => (g.2 j hj).trans (h.2 j hj)⟩
theorem m_fM.up {Z F : List Nat} {D D1 : m_D} {i j : Nat} {v : Int32} (h : m_fM Z F D D1) (hi : i ∈ Z) (h34 : i ≠ 34) : m_fM Z F D (m_up D1 i j v) := ⟨fun a ha hb => (m_up_ne (D := D1) (i := i) (a := a) (fun z => ha (by rw [z]; exact hi))).trans (h.1 a ha hb), fun b hb => by
  rw [m_up_ne (fun z => h34 z.symm)]
  exact h.2 b hb⟩
theorem m_fM.upF {Z F : List Nat} {D D1 : m_D} {j : Nat} {v : Int32} (h : m_fM Z F D D1) (hj : j ∈ F) : m_fM Z F D (m_up D1 34 j v) := ⟨fun a ha hb => (m_up_ne (D := D1) (i := 34) (a := a) hb).trans (h.1 a ha hb), fun b hb => by
  rw [m_up_n (fun z => hb (by rw [z]; exact hj))]
  exact h.2 b hb⟩
theorem m_fM.sub {Z F Y G : List Nat} {D D1 : m_D} (h : m_fM Z F D D1) (hs : ∀ a, a ∈ Z → a ∈ Y) (hg : ∀ a, a ∈ F → a ∈ G) : m_fM Y G D D1 := ⟨fun a ha hb => h.1 a (fun z => ha (hs a z)) hb, fun j hj => h.2 j (fun z => hj (hg j z))⟩
theorem relM_keep {Z F : List Nat} {D D' : m_D} {S : SH} (hf : m_fM Z F D D') (hZ : ∀ a, a ∈ [35, 36, 37, 38, 39, 40] → a ∉ Z) (hF : 1 ∉ F ∧ 2 ∉ F) (h : relM D S) : relM D' S := by
  have e : ∀ a, a ∈ [35, 36, 37, 38, 39, 40] → D' a = D a := fun a ha => hf.1 a (hZ a ha) (by
    simp only [List.mem_cons, List.not_mem_nil, or_false] at ha
    omega)
  obtain ⟨h1, h2, h3, h4, h5⟩ := h
  refine ⟨by rw [hf.2 1 hF.1]; exact h1, by rw [hf.2 2 hF.2]; exact h2, fun l hl => ?_, fun c hc => ?_, fun t ht => ?_⟩
  · rw [e 35 (by simp), e 36 (by simp)]
    exact h3 l hl
  · rw [e 37 (by simp), e 38 (by simp), e 39 (by simp)]
    exact h4 c hc
  · rw [e 40 (by simp)]
    exact h5 t ht
theorem c_falls {L d f t a : Nat} {S : SH} {D : m_D} {Q : m_K} (hr : relM D S) (hf : f < 4) (ht : t < 6) (h0 : p_to S.2.2.2 f t = none → Q none (m_up D 34 22 (D 34 22 + nI a))) (h1 : ∀ g, p_to S.2.2.2 f t = some g → Q none (m_up (m_up D 49 (g * 6 + t) (D 49 (g * 6 + t) + nI a)) 50 g (D 50 g + nI a))) : m_call L (d + 2) 112 [.ref 34, .int (nI f), .int (nI t), .int (nI a)] D Q := by
  have e4 : nI f + 1 - (nI f + 1) / 4 * 4 = nI ((f + 1) % 4) := by
    rw [nI_1]
    exact pk_rem (d := 4) (by omega) (by omega) (by omega)
  have h4 : (f + 1) % 4 < 4 := Nat.mod_lt _ (by omega)
  have key : ∀ (g : Nat) (o : Option Value), g < 4 → p_to S.2.2.2 f t = some g → m_V L (d + 1) Q t_X5_falls 0 (37, [some (.ref 34), some (.int (nI f)), some (.int (nI t)), some (.int (nI a)), some (.int (nI ((f + 1) % 4))), o], [.int (nI g)], D) := by
    intro g o hg he
    have ei : 6 * nI g + nI t = nI (g * 6 + t) := by rw [show (6 : Int32) = nI 6 from rfl, pk_mul, nI_add, Nat.mul_comm]
    have hci : (nI (g * 6 + t)).toNatClampNeg = g * 6 + t := nI_clamp (by omega)
    have hini : vp_in (nI (g * 6 + t)) 24 := vp_in_nI (by omega) (by omega)
    have hcg : (nI g).toNatClampNeg = g := nI_clamp (by omega)
    have hing : vp_in (nI g) 4 := vp_in_nI (by omega) (by omega)
    refine v_go rfl ?_
    refine v_bT rfl (nI_pos' (by omega)) ?_
    refine v_go rfl ?_
    rw [ei]
    refine v_sd rfl hini ?_
    rw [hci]
    refine v_go rfl ?_
    refine v_sd rfl hini ?_
    rw [hci]
    refine v_go rfl ?_
    refine v_sd rfl hing ?_
    rw [hcg]
    refine v_go rfl ?_
    refine v_sd rfl hing ?_
    rw [hcg]
    exact v_rt rfl trivial (h1 g he)
  refine v_in (tb' := t_X5_falls) (rk' := 0) rfl rfl rfl ?_
  refine v_go rfl ?_
  refine v_sd rfl (by decide) ?_
  rw [e4]
  refine v_go rfl ?_
  refine v_ca rfl ?_
  refine c_coughsM hr hf ht (fun hg => ?_) (fun hg => ?_)
  · refine v_go rfl ?_
    refine v_bT rfl (by decide) ?_
    refine v_go rfl ?_
    refine v_ca rfl ?_
    refine c_coughsM hr h4 ht (fun hg2 => ?_) (fun hg2 => ?_)
    · refine v_go rfl ?_
      refine v_bT rfl (by decide) ?_
      refine v_go rfl ?_
      refine v_bF rfl (by decide) ?_
      refine v_go rfl ?_
      refine v_rt rfl trivial (h0 ?_)
      unfold p_to
      rw [if_neg (by rw [hg]; decide), if_neg (by rw [hg2]; decide)]
    · refine v_go rfl ?_
      refine v_bF rfl (by decide) ?_
      refine v_run 2 rfl (key _ none h4 ?_)
      unfold p_to
      rw [if_neg (by rw [hg]; decide), if_pos hg2]
  · refine v_go rfl ?_
    refine v_bF rfl (by decide) ?_
    refine v_run 2 rfl (key _ none hf ?_)
    unfold p_to
    rw [if_pos hg]
theorem c_reads {L d l : Nat} {S : SH} {D : m_D} {Q : m_K} (hr : relM D S) (ho : okS S) (hl : l < S.1) (h : ∀ D', m_fM [46, 47] [] D D' → (∀ i, i ≠ l → D' 46 i = D 46 i ∧ D' 47 i = D 47 i) → D' 46 l = oI (p_hour S l) → D' 47 l = oI (p_by S l) → Q none D') : m_call L (d + 2) 109 [.ref 34, .int (nI l)] D Q := by
  have hl6 : l < 6 := Nat.lt_of_lt_of_le hl ho.1
  have hk3 : S.2.1 ≤ 3 := ho.2.1
  have hcl : (nI l).toNatClampNeg = l := nI_clamp (by omega)
  have hin : vp_in (nI l) 6 := vp_in_nI (by omega) (by omega)
  have key : ∀ (m c : Nat) (o : Option Value) (D1 : m_D), c + m = S.2.1 → m_fM [46, 47] [] D D1 → (∀ i, i ≠ l → D1 46 i = D 46 i ∧ D1 47 i = D 47 i) → D1 46 l = oI (p_fr S l c).1 → D1 47 l = oI (p_fr S l c).2 → m_V L (d + 1) Q t_X5_reads 0 (18, [some (.ref 34), some (.int (nI l)), some (.int (nI c)), o], [], D1) := by
    intro m
    induction m with
    | zero =>
      intro c o D1 hc hf hi e1 e2
      have hc : c = S.2.1 := by omega
      subst hc
      have hr1 := relM_keep hf (by decide) (by decide) hr
      refine v_go rfl ?_
      rw [hr1.2.1]
      refine v_bT rfl (Int32.le_refl _) ?_
      exact v_rt rfl trivial (h D1 hf hi e1 e2)
    | succ m ih =>
      intro c o D1 hc hf hi e1 e2
      have hfr := p_fr_ok S l c
      have e : p_fr S l (c + 1) = p_nx (p_hb l (S.2.2.1 4 c) (S.2.2.1 3 c)) c (p_fr S l c) := rfl
      have hr1 := relM_keep hf (by decide) (by decide) hr
      have ih := fun o D2 => ih (c + 1) o D2 (by omega)
      rw [e, ← nI_1] at ih
      rcases hq : p_fr S l c with ⟨u, w⟩
      rw [hq] at ih hfr e1 e2
      dsimp only at e1 e2
      refine v_go rfl ?_
      rw [hr1.2.1]
      refine v_bF rfl (nI_ge (by omega) (by omega)) ?_
      refine v_go rfl ?_
      refine v_ca rfl ?_
      refine c_hourBy hr1 ho (by omega) hl6 ?_
      cases ht : p_hb l (S.2.2.1 4 c) (S.2.2.1 3 c) with
      | none =>
        rw [ht] at ih
        refine v_go rfl ?_
        refine v_bT rfl (by decide) ?_
        refine v_go rfl ?_
        refine v_bT rfl (by decide) ?_
        exact v_run 2 rfl (ih _ D1 hf hi e1 e2)
      | some t =>
        rw [ht] at ih
        have ht5 := p_hb_le ht
        refine v_go rfl ?_
        refine v_bF rfl (nI_pos (by omega)) ?_
        refine v_go rfl ?_
        refine v_sd rfl hin ?_
        rw [hcl, e1]
        have hup : ∀ (x y : Int32), m_fM [46, 47] [] D (m_up (m_up D1 46 l x) 47 l y) := fun x y => (hf.up (by simp) (by decide)).up (by simp) (by decide)
        have hui : ∀ (x y : Int32) (i : Nat), i ≠ l → m_up (m_up D1 46 l x) 47 l y 46 i = D 46 i ∧ m_up (m_up D1 46 l x) 47 l y 47 i = D 47 i := by
          intro x y i hil
          show upd (D1 46) l x i = _ ∧ upd (D1 47) l y i = _
          rw [pk_un hil, pk_un hil]
          exact hi i hil
        cases u with
        | none =>
          refine v_bT rfl (by decide) ?_
          refine v_go rfl ?_
          refine v_sd rfl hin ?_
          rw [hcl]
          refine v_go rfl ?_
          refine v_sd rfl hin ?_
          rw [hcl]
          exact v_run 3 rfl (ih _ _ (hup _ _) (hui _ _) pk_us pk_us)
        | some u =>
          have hu := hfr.1 u rfl
          refine v_bF rfl (nI_pos (by omega)) ?_
          refine v_go rfl ?_
          refine v_sd rfl hin ?_
          rw [hcl, e1]
          unfold p_nx at ih
          dsimp only at ih
          by_cases h1 : t < u
          · rw [if_pos h1] at ih
            refine v_bF rfl (nI_ge h1 (by omega)) ?_
            refine v_go rfl ?_
            refine v_sd rfl hin ?_
            rw [hcl]
            refine v_go rfl ?_
            refine v_sd rfl hin ?_
            rw [hcl]
            exact v_run 3 rfl (ih _ _ (hup _ _) (hui _ _) pk_us pk_us)
          · rw [if_neg h1] at ih
            refine v_bT rfl (nI_le (by omega) (by omega)) ?_
            refine v_go rfl ?_
            refine v_bF rfl (nI_pos (by omega)) ?_
            refine v_go rfl ?_
            refine v_sd rfl hin ?_
            rw [hcl, e1]
            by_cases h2 : t = u
            · rw [if_pos h2] at ih
              subst h2
              refine v_bF rfl (fun z => z rfl) ?_
              refine v_go rfl ?_
              refine v_sd rfl hin ?_
              rw [hcl]
              refine v_run 2 rfl (ih _ _ (hf.up (by simp) (by decide)) (fun i hil => ?_) e1 pk_us)
              show D1 46 i = _ ∧ upd (D1 47) l _ i = _
              rw [pk_un hil]
              exact hi i hil
            · rw [if_neg h2] at ih
              refine v_bT rfl (fun z => h2 ((nI_eq (by omega) (by omega)).mp z)) ?_
              exact v_run 2 rfl (ih _ D1 hf hi e1 e2)
  have hf0 : m_fM [46, 47] [] D (m_up (m_up D 46 l (-9)) 47 l (-9)) := ((m_fM.refl _ _ _).up (by simp) (by decide)).up (by simp) (by decide)
  have hk := key S.2.1 0 none _ (by omega) hf0 (fun i hil => by
    show upd (D 46) l _ i = _ ∧ upd (D 47) l _ i = _
    rw [pk_un hil, pk_un hil]
    exact ⟨rfl, rfl⟩) pk_us pk_us
  refine v_in (tb' := t_X5_reads) (rk' := 0) rfl rfl rfl ?_
  refine v_go rfl ?_
  refine v_sd rfl hin ?_
  rw [hcl]
  refine v_go rfl ?_
  refine v_sd rfl hin ?_
  rw [hcl]
  exact v_run 2 rfl hk
