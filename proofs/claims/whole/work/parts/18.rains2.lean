/-- what has fallen after so many lines, in the reference's rows -/
def relR (S : SH) (l : Nat) (D : m_D) : Prop := (∀ i, i < l → D 46 i = oI (p_hour S i) ∧ D 47 i = oI (p_by S i) ∧ D 48 i = nI (p_amt S i)) ∧ (∀ f t, f < 4 → t < 6 → D 49 (f * 6 + t) = nI (p_came S f t l)) ∧ (∀ f, f < 4 → D 50 f = nI (p_wet S f l)) ∧ D 34 22 = nI (p_lost S l)
theorem relR_rows {S : SH} {l : Nat} {D D' : m_D} (hF : ∀ i, i < l → D 46 i = oI (p_hour S i) ∧ D 47 i = oI (p_by S i) ∧ D 48 i = nI (p_amt S i)) (h46 : D 46 l = oI (p_hour S l)) (h47 : D 47 l = oI (p_by S l)) (e46 : D' 46 = D 46) (e47 : D' 47 = D 47) (e48 : D' 48 = upd (D 48) l (nI (p_amt S l))) : ∀ i, i < l + 1 → D' 46 i = oI (p_hour S i) ∧ D' 47 i = oI (p_by S i) ∧ D' 48 i = nI (p_amt S i) := by
  intro i hi
  rw [e46, e47, e48]
  by_cases e : i = l
  · subst e
    rw [pk_us]
    exact ⟨h46, h47, rfl⟩
  · rw [pk_un e]
    exact hF i (by omega)
theorem relR_none {S : SH} {l : Nat} {D D' : m_D} (hF : relR S l D) (h46 : D 46 l = oI (p_hour S l)) (h47 : D 47 l = oI (p_by S l)) (hby : p_by S l = none) (e46 : D' 46 = D 46) (e47 : D' 47 = D 47) (e48 : D' 48 = upd (D 48) l (nI (p_amt S l))) (e49 : D' 49 = D 49) (e50 : D' 50 = D 50) (e22 : D' 34 22 = D 34 22) : relR S (l + 1) D' := by
  obtain ⟨f1, f2, f3, f4⟩ := hF
  have ha := p_amt_no hby
  have hd := p_dst_no hby
  refine ⟨relR_rows f1 h46 h47 e46 e47 e48, fun f t hf ht => ?_, fun f hf => ?_, ?_⟩
  · rw [e49, f2 f t hf ht]
    show _ = nI (p_came S f t l + _)
    rw [hd, if_neg (fun z => by cases z.1)]
    rfl
  · rw [e50, f3 f hf]
    show _ = nI (p_wet S f l + _)
    rw [hd, if_neg (fun z => by cases z)]
    rfl
  · rw [e22, f4]
    show _ = nI (p_lost S l + _)
    rw [hd, ha]
    rfl
theorem relR_lost {S : SH} {l : Nat} {D D' : m_D} (hF : relR S l D) (h46 : D 46 l = oI (p_hour S l)) (h47 : D 47 l = oI (p_by S l)) (hd : p_dst S l = none) (e46 : D' 46 = D 46) (e47 : D' 47 = D 47) (e48 : D' 48 = upd (D 48) l (nI (p_amt S l))) (e49 : D' 49 = D 49) (e50 : D' 50 = D 50) (e22 : D' 34 22 = D 34 22 + nI (p_amt S l)) : relR S (l + 1) D' := by
  obtain ⟨f1, f2, f3, f4⟩ := hF
  refine ⟨relR_rows f1 h46 h47 e46 e47 e48, fun f t hf ht => ?_, fun f hf => ?_, ?_⟩
  · rw [e49, f2 f t hf ht]
    show _ = nI (p_came S f t l + _)
    rw [hd, if_neg (fun z => by cases z.1)]
    rfl
  · rw [e50, f3 f hf]
    show _ = nI (p_wet S f l + _)
    rw [hd, if_neg (fun z => by cases z)]
    rfl
  · rw [e22, f4, nI_add]
    show _ = nI (p_lost S l + _)
    rw [if_pos hd]
theorem relR_some {S : SH} {l h g : Nat} {D D' : m_D} (hF : relR S l D) (h46 : D 46 l = oI (p_hour S l)) (h47 : D 47 l = oI (p_by S l)) (hh : p_hour S l = some h) (hd : p_dst S l = some g) (hh6 : h < 6) (e46 : D' 46 = D 46) (e47 : D' 47 = D 47) (e48 : D' 48 = upd (D 48) l (nI (p_amt S l))) (e49 : D' 49 = upd (D 49) (g * 6 + h) (D 49 (g * 6 + h) + nI (p_amt S l))) (e50 : D' 50 = upd (D 50) g (D 50 g + nI (p_amt S l))) (e22 : D' 34 22 = D 34 22) : relR S (l + 1) D' := by
  obtain ⟨f1, f2, f3, f4⟩ := hF
  refine ⟨relR_rows f1 h46 h47 e46 e47 e48, fun f t hf ht => ?_, fun f hf => ?_, ?_⟩
  · rw [e49]
    show _ = nI (p_came S f t l + _)
    rw [hd, hh]
    by_cases e : f = g ∧ t = h
    · obtain ⟨rfl, rfl⟩ := e
      rw [pk_us, f2 f t hf ht, nI_add, if_pos ⟨rfl, rfl⟩]
    · rw [pk_un (by omega), f2 f t hf ht, if_neg (fun z => e ⟨by cases z.1; rfl, by cases z.2; rfl⟩)]
      rfl
  · rw [e50]
    show _ = nI (p_wet S f l + _)
    rw [hd]
    by_cases e : f = g
    · subst e
      rw [pk_us, f3 f hf, nI_add, if_pos rfl]
    · rw [pk_un e, f3 f hf, if_neg (fun z => e (by cases z; rfl))]
      rfl
  · rw [e22, f4]
    show _ = nI (p_lost S l + _)
    rw [hd, if_neg (fun z => by cases z)]
    rfl
abbrev z_R : List Nat := [46, 47, 48, 49, 50]
theorem c_rains {L d : Nat} {S : SH} {D : m_D} {Q : m_K} (hr : relM D S) (ho : okS S) (h : ∀ D', m_fM z_R [22] D D' → relR S S.1 D' → Q none D') : m_call L (d + 3) 113 [.ref 34] D Q := by
  have k3 : ∀ (m l : Nat) (D1 : m_D), l + m = S.1 → m_fM z_R [22] D D1 → relR S l D1 → m_V L (d + 2) Q t_X5_rains 0 (48, [some (.ref 34), some (.int (nI l))], [], D1) := by
    intro m
    induction m with
    | zero =>
      intro l D1 hm hf hF
      have hm : l = S.1 := by omega
      subst hm
      have hr1 := relM_keep hf (by decide) (by decide) hr
      refine v_go rfl ?_
      rw [hr1.1]
      refine v_bT rfl (Int32.le_refl _) ?_
      exact v_rt rfl trivial (h D1 hf hF)
    | succ m ih =>
      intro l D1 hm hf hF
      have hr1 := relM_keep hf (by decide) (by decide) hr
      have hn6 := ho.1
      have hl : l < S.1 := by omega
      have hcl : (nI l).toNatClampNeg = l := nI_clamp (by omega)
      have hin : vp_in (nI l) 6 := vp_in_nI (by omega) (by omega)
      have ih := fun D2 => ih (l + 1) D2 (by omega)
      rw [← nI_1] at ih
      refine v_go rfl ?_
      rw [hr1.1]
      refine v_bF rfl (nI_ge (by omega) (by omega)) ?_
      refine v_go rfl ?_
      refine v_ca rfl ?_
      refine c_reads hr1 ho hl (fun D2 hf2 hi2 e46 e47 => ?_)
      have hf02 := hf.trans (hf2.sub (Y := z_R) (G := [22]) (by simp) (by simp))
      have hr2 := relM_keep hf02 (by decide) (by decide) hr
      have hF2 : relR S l D2 := by
        obtain ⟨f1, f2, f3, f4⟩ := hF
        refine ⟨fun i hi => ?_, ?_, ?_, ?_⟩
        · rw [(hi2 i (by omega)).1, (hi2 i (by omega)).2, hf2.1 48 (by simp) (by decide)]
          exact f1 i hi
        · rw [hf2.1 49 (by simp) (by decide)]
          exact f2
        · rw [hf2.1 50 (by simp) (by decide)]
          exact f3
        · rw [hf2.2 22 (by simp)]
          exact f4
      obtain ⟨q1, q2⟩ := p_fr_ok S l S.2.1
      obtain ⟨ol1, ol2⟩ := ho.2.2.1 l hl
      obtain ⟨rl1, rl2⟩ := hr2.2.2.1 l hl
      refine v_go rfl ?_
      refine v_sd rfl hin ?_
      rw [hcl, e47]
      cases hby : p_by S l with
      | none =>
        refine v_bF rfl (by decide) ?_
        refine v_go rfl ?_
        refine v_sd rfl hin ?_
        rw [hcl]
        refine v_go rfl ?_
        refine v_sd rfl hin ?_
        rw [hcl]
        have e47' : m_up D2 48 l 0 47 l = oI (p_by S l) := e47
        rw [e47', hby]
        refine v_bT rfl (by decide) ?_
        refine v_run 2 rfl (ih _ (hf02.up (by simp) (by decide)) (relR_none hF2 e46 e47 hby rfl rfl ?_ rfl rfl rfl))
        rw [p_amt_no hby]
        rfl
      | some c =>
        have hc : c < S.2.1 := (q2 c hby).1
        have hc3 : S.2.1 ≤ 3 := ho.2.1
        refine v_bT rfl (nI_pos' (by omega)) ?_
        refine v_go rfl ?_
        refine v_sd rfl hin ?_
        rw [hcl, e47, hby]
        refine v_go rfl ?_
        refine v_sd rfl hin ?_
        rw [hcl, rl1]
        refine v_ca rfl ?_
        refine c_givenM hr2 ho hc ol1 ?_
        have ham : p_amt S l = p_give (S.2.2.1 2 c) (S.2.2.1 0 l) := by unfold p_amt; rw [hby]
        rw [← ham]
        refine v_sd rfl hin ?_
        rw [hcl]
        refine v_go rfl ?_
        refine v_sd rfl hin ?_
        rw [hcl]
        have e47' : m_up D2 48 l (nI (p_amt S l)) 47 l = oI (p_by S l) := e47
        rw [e47', hby]
        refine v_bF rfl (nI_pos (by omega)) ?_
        refine v_go rfl ?_
        refine v_sd rfl hin ?_
        rw [hcl]
        refine v_go rfl ?_
        refine v_sd rfl hin ?_
        rw [hcl]
        refine v_go rfl ?_
        refine v_sd rfl hin ?_
        rw [hcl]
        have e46' : m_up D2 48 l (nI (p_amt S l)) 46 l = oI (p_hour S l) := e46
        have e36' : m_up D2 48 l (nI (p_amt S l)) 36 l = nI (S.2.2.1 1 l) := rl2
        rw [e46', e36', m_up_s]
        cases hh : p_hour S l with
        | none => exact absurd hh (q2 c hby).2
        | some t =>
          have ht : t < 6 := by have := q1 t hh; omega
          have hds := p_dst_to hh hby
          have hf3 := hf02.up (i := 48) (j := l) (v := nI (p_amt S l)) (by simp) (by decide)
          have hr3 : relM (m_up D2 48 l (nI (p_amt S l))) S := hr2
          refine v_ca rfl ?_
          refine c_falls (f := S.2.2.1 1 l) (t := t) hr3 ol2 ht (fun hz => ?_) (fun g hz => ?_)
          · refine v_run 2 rfl (ih _ (hf3.upF (by simp)) (relR_lost hF2 e46 e47 (hds.trans hz) rfl rfl rfl rfl rfl rfl))
          · have hg : g < 4 := p_to_lt ol2 hz
            refine v_run 2 rfl (ih _ ((hf3.up (by simp) (by decide)).up (by simp) (by decide)) (relR_some hF2 e46 e47 hh (hds.trans hz) ht rfl rfl rfl rfl rfl rfl))
  have k2 : ∀ (m l : Nat) (D1 : m_D), l + m = 4 → m_fM z_R [22] D D1 → D1 34 22 = 0 → (∀ j, j < 24 → D1 49 j = 0) → (∀ j, j < l → D1 50 j = 0) → m_V L (d + 2) Q t_X5_rains 0 (28, [some (.ref 34), some (.int (nI l))], [], D1) := by
    intro m
    induction m with
    | zero =>
      intro l D1 hm hf h22 h49 h50
      have hm : l = 4 := by omega
      subst hm
      refine v_go rfl ?_
      refine v_bT rfl (Int32.le_refl _) ?_
      exact v_run 2 rfl (k3 S.1 0 D1 (by omega) hf ⟨fun i hi => absurd hi (by omega), fun f t hf ht => h49 _ (by omega), fun f hf => h50 f hf, h22⟩)
    | succ m ih =>
      intro l D1 hm hf h22 h49 h50
      have hcl : (nI l).toNatClampNeg = l := nI_clamp (by omega)
      have hin : vp_in (nI l) 4 := vp_in_nI (by omega) (by omega)
      have ih := ih (l + 1) (m_up D1 50 l 0) (by omega) (hf.up (by simp) (by decide)) h22 h49 (fun j hj => by
        by_cases e : j = l
        · rw [e, m_up_s]
        · rw [m_up_n e]
          exact h50 j (by omega))
      rw [← nI_1] at ih
      refine v_go rfl ?_
      refine v_bF rfl (nI_ge (b := 4) (by omega) (by omega)) ?_
      refine v_go rfl ?_
      refine v_sd rfl hin ?_
      rw [hcl]
      exact v_run 2 rfl ih
  have k1 : ∀ (m l : Nat) (D1 : m_D), l + m = 24 → m_fM z_R [22] D D1 → D1 34 22 = 0 → (∀ j, j < l → D1 49 j = 0) → m_V L (d + 2) Q t_X5_rains 0 (7, [some (.ref 34), some (.int (nI l))], [], D1) := by
    intro m
    induction m with
    | zero =>
      intro l D1 hm hf h22 h49
      have hm : l = 24 := by omega
      subst hm
      refine v_go rfl ?_
      refine v_bT rfl (Int32.le_refl _) ?_
      exact v_run 2 rfl (k2 4 0 D1 (by omega) hf h22 h49 (fun j hj => absurd hj (by omega)))
    | succ m ih =>
      intro l D1 hm hf h22 h49
      have hcl : (nI l).toNatClampNeg = l := nI_clamp (by omega)
      have hin : vp_in (nI l) 24 := vp_in_nI (by omega) (by omega)
      have ih := ih (l + 1) (m_up D1 49 l 0) (by omega) (hf.up (by simp) (by decide)) h22 (fun j hj => by
        by_cases e : j = l
        · rw [e, m_up_s]
        · rw [m_up_n e]
          exact h49 j (by omega))
      rw [← nI_1] at ih
      refine v_go rfl ?_
      refine v_bF rfl (nI_ge (b := 24) (by omega) (by omega)) ?_
      refine v_go rfl ?_
      refine v_sd rfl hin ?_
      rw [hcl]
      exact v_run 2 rfl ih
  refine v_in (tb' := t_X5_rains) (rk' := 0) rfl rfl rfl ?_
  exact v_run 5 rfl (k1 24 0 _ (by omega) ((m_fM.refl _ _ _).upF (by simp)) m_up_s (fun j hj => absurd hj (by omega)))
