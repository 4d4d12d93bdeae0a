/-! ===== findReader, bringDown, workOut ===== -/
theorem oI_ne9 {t : Nat} (h : t < 100) : ¬ oI (some t) = -9 := nI_m9 (by omega)
theorem c_findReader {L d B l : Nat} {S : SH} {D : m_D} {Q : m_K} (hB : B = 1 ∨ B = 8) (hr : relC B D S) (ho : okS S) (hl : l < S.1) (h : Q none (m_up (m_up D 16 l (oI (p_hour S l))) 17 l (oI (p_by S l)))) : m_call L (d + 2) 1 [.ref 15, .ref B, .int (nI l)] D Q := by
  have hl6 : l < 6 := Nat.lt_of_lt_of_le hl ho.1
  have hk3 : S.2.1 ≤ 3 := ho.2.1
  have hcl : (nI l).toNatClampNeg = l := nI_clamp (by omega)
  have hin : vp_in (nI l) 6 := vp_in_nI (by omega) (by omega)
  have hkB : D B 1 = nI S.2.1 := hr.2.1
  have key : ∀ (m c : Nat) (o : Option Value), c + m = S.2.1 → m_V L (d + 1) Q t_X0_findReader 0 (10, [some (.ref 15), some (.ref B), some (.int (nI l)), some (.int (oI (p_fr S l c).1)), some (.int (oI (p_fr S l c).2)), some (.int (nI c)), o], [], D) := by
    intro m
    induction m with
    | zero =>
      intro c o hc
      have hc : c = S.2.1 := by omega
      subst hc
      rcases hB with rfl | rfl
      all_goals
        refine v_go rfl ?_
        rw [hkB]
        refine v_bT rfl (Int32.le_refl _) ?_
        refine v_go rfl ?_
        refine v_sd rfl hin ?_
        rw [hcl]
        refine v_go rfl ?_
        refine v_sd rfl hin ?_
        rw [hcl]
        exact v_rt rfl trivial h
    | succ m ih =>
      intro c o hc
      have hfr := p_fr_ok S l c
      have e : p_fr S l (c + 1) = p_nx (p_hb l (S.2.2.1 4 c) (S.2.2.1 3 c)) c (p_fr S l c) := rfl
      have ih := fun o => ih (c + 1) o (by omega)
      rw [e, ← nI_1] at ih
      rcases hq : p_fr S l c with ⟨u, w⟩
      rw [hq] at ih hfr
      have hB0 := hB
      rcases hB with rfl | rfl
      all_goals
        refine v_go rfl ?_
        rw [hkB]
        refine v_bF rfl (nI_ge (by omega) (by omega)) ?_
        refine v_go rfl ?_
        refine v_ca rfl ?_
        refine c_hor hB0 hr ho (by omega) hl6 ?_
        cases ht : p_hb l (S.2.2.1 4 c) (S.2.2.1 3 c) with
        | none =>
          rw [ht] at ih
          refine v_go rfl ?_
          refine v_bT rfl rfl ?_
          refine v_go rfl ?_
          refine v_bT rfl rfl ?_
          exact v_run 2 rfl (ih _)
        | some t =>
          rw [ht] at ih
          have ht5 := p_hb_le ht
          refine v_go rfl ?_
          refine v_bF rfl (oI_ne9 (by omega)) ?_
          refine v_go rfl ?_
          cases u with
          | none =>
            refine v_bT rfl rfl ?_
            exact v_run 7 rfl (ih _)
          | some u =>
            have hu := hfr.1 u rfl
            refine v_bF rfl (oI_ne9 (by omega)) ?_
            refine v_go rfl ?_
            unfold p_nx at ih
            dsimp only at ih
            by_cases h1 : t < u
            · rw [if_pos h1] at ih
              refine v_bF rfl (nI_ge h1 (by omega)) ?_
              exact v_run 7 rfl (ih _)
            · rw [if_neg h1] at ih
              refine v_bT rfl (nI_le (by omega) (by omega)) ?_
              refine v_go rfl ?_
              refine v_bF rfl (oI_ne9 (by omega)) ?_
              refine v_go rfl ?_
              by_cases h2 : t = u
              · rw [if_pos h2] at ih
                subst h2
                refine v_bF rfl (fun z => z rfl) ?_
                exact v_run 4 rfl (ih _)
              · rw [if_neg h2] at ih
                refine v_bT rfl (fun z => h2 ((nI_eq (by omega) (by omega)).mp z)) ?_
                exact v_run 2 rfl (ih _)
  have hk := key S.2.1 0 none (by omega)
  rcases hB with rfl | rfl
  all_goals
    refine v_in (tb' := t_X0_findReader) (rk' := 0) rfl rfl rfl ?_
    exact v_run 6 rfl hk
/-- what has fallen after so many lines, in the class's rows -/
def relF (S : SH) (l : Nat) (D : m_D) : Prop := (∀ i, i < l → D 16 i = oI (p_hour S i) ∧ D 17 i = oI (p_by S i) ∧ D 18 i = nI (p_amt S i)) ∧ (∀ f t, f < 4 → t < 6 → D 19 (f * 6 + t) = nI (p_came S f t l)) ∧ (∀ f, f < 4 → D 20 f = nI (p_wet S f l)) ∧ D 15 5 = p_hang S l ∧ D 15 6 = p_mud S l ∧ D 15 7 = nI (p_lost S l)
theorem p_dst_to {S : SH} {l h c : Nat} (e1 : p_hour S l = some h) (e2 : p_by S l = some c) : p_dst S l = p_to S.2.2.2 (S.2.2.1 1 l) h := by
  unfold p_dst
  unfold p_hour at e1
  unfold p_by at e2
  rcases hq : p_fr S l S.2.1 with ⟨u, w⟩
  rw [hq] at e1 e2
  cases e1
  cases e2
  rfl
theorem p_dst_no {S : SH} {l : Nat} (e2 : p_by S l = none) : p_dst S l = none := by
  unfold p_dst
  unfold p_by at e2
  rcases hq : p_fr S l S.2.1 with ⟨u, w⟩
  rw [hq] at e2
  cases e2
  cases u <;> rfl
theorem p_amt_no {S : SH} {l : Nat} (e2 : p_by S l = none) : p_amt S l = 0 := by
  unfold p_amt
  rw [e2]
theorem p_to_lt {cg : Nat → Nat → Bool} {f t g : Nat} (hf : f < 4) (h : p_to cg f t = some g) : g < 4 := by
  unfold p_to at h
  split at h
  · cases h; exact hf
  · split at h
    · cases h; exact Nat.mod_lt _ (by omega)
    · cases h
/-- a line of which nothing falls -/
theorem relF_none {S : SH} {l : Nat} {D D' : m_D} (hF : relF S l D) (h16 : D 16 l = oI (p_hour S l)) (h17 : D 17 l = oI (p_by S l)) (hby : p_by S l = none) (e16 : D' 16 = D 16) (e17 : D' 17 = D 17) (e18 : D' 18 = upd (D 18) l 0) (e19 : D' 19 = D 19) (e20 : D' 20 = D 20) (e5 : D' 15 5 = p_hang S (l + 1)) (e6 : D' 15 6 = p_mud S (l + 1)) (e7 : D' 15 7 = D 15 7) : relF S (l + 1) D' := by
  obtain ⟨f1, f2, f3, f4, f5, f6⟩ := hF
  have ha := p_amt_no hby
  have hd := p_dst_no hby
  refine ⟨fun i hi => ?_, fun f t hf ht => ?_, fun f hf => ?_, e5, e6, ?_⟩
  · rw [e16, e17, e18]
    by_cases e : i = l
    · subst e
      rw [pk_us, ha]
      exact ⟨h16, h17, rfl⟩
    · rw [pk_un e]
      exact f1 i (by omega)
  · rw [e19, f2 f t hf ht]
    show _ = nI (p_came S f t l + _)
    rw [hd, if_neg (fun z => by cases z.1)]
    rfl
  · rw [e20, f3 f hf]
    show _ = nI (p_wet S f l + _)
    rw [hd, if_neg (fun z => by cases z)]
    rfl
  · rw [e7, f6]
    show _ = nI (p_lost S l + _)
    rw [hd, ha]
    rfl
/-- a line that is lost -/
theorem relF_lost {S : SH} {l h c : Nat} {D D' : m_D} (hF : relF S l D) (h16 : D 16 l = oI (p_hour S l)) (h17 : D 17 l = oI (p_by S l)) (hh : p_hour S l = some h) (hby : p_by S l = some c) (hd : p_dst S l = none) (e16 : D' 16 = D 16) (e17 : D' 17 = D 17) (e18 : D' 18 = upd (upd (D 18) l 0) l (nI (p_amt S l))) (e19 : D' 19 = D 19) (e20 : D' 20 = D 20) (e5 : D' 15 5 = D 15 5) (e6 : D' 15 6 = D 15 6) (e7 : D' 15 7 = D 15 7 + nI (p_amt S l)) : relF S (l + 1) D' := by
  obtain ⟨f1, f2, f3, f4, f5, f6⟩ := hF
  refine ⟨fun i hi => ?_, fun f t hf ht => ?_, fun f hf => ?_, ?_, ?_, ?_⟩
  · rw [e16, e17, e18]
    by_cases e : i = l
    · subst e
      rw [pk_us]
      exact ⟨h16, h17, rfl⟩
    · rw [pk_un e, pk_un e]
      exact f1 i (by omega)
  · rw [e19, f2 f t hf ht]
    show _ = nI (p_came S f t l + _)
    rw [hd, if_neg (fun z => by cases z.1)]
    rfl
  · rw [e20, f3 f hf]
    show _ = nI (p_wet S f l + _)
    rw [hd, if_neg (fun z => by cases z)]
    rfl
  · rw [e5, f4]
    show _ = if p_hour S l = none then _ else _
    rw [if_neg (by rw [hh]; exact fun z => by cases z)]
  · rw [e6, f5]
    show _ = if ¬ p_hour S l = none ∧ p_by S l = none then _ else _
    rw [if_neg (by rw [hby]; exact fun z => by cases z.2)]
  · rw [e7, f6, nI_add]
    show _ = nI (p_lost S l + _)
    rw [if_pos hd]
/-- a line that comes to a field -/
theorem relF_some {S : SH} {l h c g : Nat} {D D' : m_D} (hF : relF S l D) (h16 : D 16 l = oI (p_hour S l)) (h17 : D 17 l = oI (p_by S l)) (hh : p_hour S l = some h) (hby : p_by S l = some c) (hd : p_dst S l = some g) (hg : g < 4) (hh6 : h < 6) (e16 : D' 16 = D 16) (e17 : D' 17 = D 17) (e18 : D' 18 = upd (upd (D 18) l 0) l (nI (p_amt S l))) (e19 : D' 19 = upd (D 19) (g * 6 + h) (D 19 (g * 6 + h) + nI (p_amt S l))) (e20 : D' 20 = upd (D 20) g (D 20 g + nI (p_amt S l))) (e5 : D' 15 5 = D 15 5) (e6 : D' 15 6 = D 15 6) (e7 : D' 15 7 = D 15 7) : relF S (l + 1) D' := by
  obtain ⟨f1, f2, f3, f4, f5, f6⟩ := hF
  refine ⟨fun i hi => ?_, fun f t hf ht => ?_, fun f hf => ?_, ?_, ?_, ?_⟩
  · rw [e16, e17, e18]
    by_cases e : i = l
    · subst e
      rw [pk_us]
      exact ⟨h16, h17, rfl⟩
    · rw [pk_un e, pk_un e]
      exact f1 i (by omega)
  · rw [e19]
    show _ = nI (p_came S f t l + _)
    rw [hd, hh]
    by_cases e : f = g ∧ t = h
    · obtain ⟨rfl, rfl⟩ := e
      rw [pk_us, f2 f t hf ht, nI_add, if_pos ⟨rfl, rfl⟩]
    · rw [pk_un (by omega), f2 f t hf ht, if_neg (fun z => e ⟨by cases z.1; rfl, by cases z.2; rfl⟩)]
      rfl
  · rw [e20]
    show _ = nI (p_wet S f l + _)
    rw [hd]
    by_cases e : f = g
    · subst e
      rw [pk_us, f3 f hf, nI_add, if_pos rfl]
    · rw [pk_un e, f3 f hf, if_neg (fun z => e (by cases z; rfl))]
      rfl
  · rw [e5, f4]
    show _ = if p_hour S l = none then _ else _
    rw [if_neg (by rw [hh]; exact fun z => by cases z)]
  · rw [e6, f5]
    show _ = if ¬ p_hour S l = none ∧ p_by S l = none then _ else _
    rw [if_neg (by rw [hby]; exact fun z => by cases z.2)]
  · rw [e7, f6]
    show _ = nI (p_lost S l + _)
    rw [hd, if_neg (fun z => by cases z)]
    rfl
theorem c_bringDown {L d B l : Nat} {S : SH} {D : m_D} {Q : m_K} (hB : B = 1 ∨ B = 8) (hr : relC B D S) (ho : okS S) (hl : l < S.1) (hF : relF S l D) (h16 : D 16 l = oI (p_hour S l)) (h17 : D 17 l = oI (p_by S l)) (h : ∀ D', m_fr [15, 18, 19, 20] D D' → relF S (l + 1) D' → Q none D') : m_call L (d + 3) 2 [.ref 15, .ref B, .int (nI l)] D Q := by
  have hB0 := hB
  have hl6 : l < 6 := Nat.lt_of_lt_of_le hl ho.1
  have hcl : (nI l).toNatClampNeg = l := nI_clamp (by omega)
  have hin : vp_in (nI l) 6 := vp_in_nI (by omega) (by omega)
  obtain ⟨q1, q2⟩ := p_fr_ok S l S.2.1
  obtain ⟨ol1, ol2⟩ := ho.2.2.1 l hl
  obtain ⟨rl1, rl2⟩ := hr.2.2.1 l hl
  rcases hB with rfl | rfl
  all_goals
    refine v_in (tb' := t_X0_bringDown) (rk' := 0) rfl rfl rfl ?_
    refine v_go rfl ?_
    refine v_sd rfl hin ?_
    rw [hcl, h16]
    refine v_go rfl ?_
    refine v_sd rfl hin ?_
    rw [hcl]
    refine v_go rfl ?_
    cases hh : p_hour S l with
    | none =>
      have hby : p_by S l = none := by
        cases hw : p_by S l with
        | none => rfl
        | some w => exact absurd hh (q2 w hw).2
      refine v_bF rfl (fun z => z rfl) ?_
      refine v_go rfl ?_
      refine v_rt rfl trivial (h _ (((m_fr.refl _ _).up (by simp)).up (by simp)) ?_)
      refine relF_none hF h16 h17 hby rfl rfl rfl rfl rfl ?_ ?_ rfl
      · show D 15 5 ||| _ = if p_hour S l = none then _ else _
        rw [if_pos hh, hF.2.2.2.1]
      · show D 15 6 = if ¬ p_hour S l = none ∧ p_by S l = none then _ else _
        rw [if_neg (fun z => z.1 hh)]
        exact hF.2.2.2.2.1
    | some t =>
      have ht : t < 6 := by have := q1 t hh; omega
      refine v_bT rfl (oI_ne9 (by omega)) ?_
      refine v_go rfl ?_
      refine v_sd rfl hin ?_
      rw [hcl]
      refine v_go rfl ?_
      have h17' : m_up D 18 l 0 17 l = oI (p_by S l) := h17
      rw [h17']
      cases hby : p_by S l with
      | none =>
        refine v_bF rfl (fun z => z rfl) ?_
        refine v_go rfl ?_
        refine v_rt rfl trivial (h _ (((m_fr.refl _ _).up (by simp)).up (by simp)) ?_)
        refine relF_none hF h16 h17 hby rfl rfl rfl rfl rfl ?_ ?_ rfl
        · show D 15 5 = if p_hour S l = none then _ else _
          rw [if_neg (by rw [hh]; exact fun z => by cases z)]
          exact hF.2.2.2.1
        · show D 15 6 ||| _ = if ¬ p_hour S l = none ∧ p_by S l = none then _ else _
          rw [if_pos ⟨by rw [hh]; exact fun z => (by cases z), hby⟩, hF.2.2.2.2.1]
      | some c =>
        have hc : c < S.2.1 := (q2 c hby).1
        have hc3 : S.2.1 ≤ 3 := ho.2.1
        refine v_bT rfl (oI_ne9 (by omega)) ?_
        refine v_go rfl ?_
        refine v_sd rfl hin ?_
        rw [hcl, h17', hby]
        refine v_go rfl ?_
        refine v_sd rfl hin ?_
        rw [hcl]
        refine v_go rfl ?_
        refine v_ca rfl ?_
        have r1 := rl1
        have r2 := rl2
        refine Eq.mp (congrArg (fun z => m_call L (d + 2) 14 [_, _, .int z] _ _) r1.symm) ?_
        refine c_given hB0 hr ho hc ol1 ?_
        have ham : p_amt S l = p_give (S.2.2.1 2 c) (S.2.2.1 0 l) := by unfold p_amt; rw [hby]
        rw [← ham]
        refine v_go rfl ?_
        refine v_sd rfl hin ?_
        rw [hcl]
        refine v_go rfl ?_
        refine v_sd rfl hin ?_
        rw [hcl]
        refine v_go rfl ?_
        refine v_ca rfl ?_
        refine Eq.mp (congrArg (fun z => m_call L (d + 2) 18 [_, .int z, _] _ _) r2.symm) ?_
        refine c_goesTo hB0 hr ol2 ht ?_
        have hds := p_dst_to hh hby
        rw [← hds]
        refine v_go rfl ?_
        cases hd : p_dst S l with
        | none =>
          refine v_bF rfl (fun z => z rfl) ?_
          refine v_go rfl ?_
          refine v_sd rfl hin ?_
          rw [hcl]
          refine v_go rfl ?_
          refine v_rt rfl trivial (h _ ((((m_fr.refl _ _).up (by simp)).up (by simp)).up (by simp)) ?_)
          refine relF_lost hF h16 h17 hh hby hd rfl rfl rfl rfl rfl rfl rfl ?_
          show D 15 7 + m_up (m_up D 18 l 0) 18 l (nI (p_amt S l)) 18 l = _
          rw [m_up_s]
        | some g =>
          have hg : g < 4 := p_to_lt ol2 (hds ▸ hd)
          have ei : nI g * 6 + nI t = nI (g * 6 + t) := by rw [show (6 : Int32) = nI 6 from rfl, pk_mul, nI_add]
          have hci : (nI (g * 6 + t)).toNatClampNeg = g * 6 + t := nI_clamp (by omega)
          have hini : vp_in (nI (g * 6 + t)) 24 := vp_in_nI (by omega) (by omega)
          have hcg : (nI g).toNatClampNeg = g := nI_clamp (by omega)
          have hing : vp_in (nI g) 4 := vp_in_nI (by omega) (by omega)
          refine v_bT rfl (oI_ne9 (by omega)) ?_
          rw [oI_some]
          refine v_go rfl ?_
          rw [oI_some, ei]
          refine v_sd rfl hini ?_
          rw [hci]
          refine v_go rfl ?_
          refine v_sd rfl hin ?_
          rw [hcl]
          refine v_go rfl ?_
          refine v_sd rfl hini ?_
          rw [hci]
          refine v_go rfl ?_
          refine v_sd rfl hing ?_
          rw [hcg]
          refine v_go rfl ?_
          refine v_sd rfl hin ?_
          rw [hcl]
          refine v_go rfl ?_
          refine v_sd rfl hing ?_
          rw [hcg]
          refine v_rt rfl trivial (h _ (((((m_fr.refl _ _).up (by simp)).up (by simp)).up (by simp)).up (by simp)) ?_)
          refine relF_some hF h16 h17 hh hby hd hg ht rfl rfl rfl ?_ ?_ rfl rfl rfl
          · show upd (D 19) (g * 6 + t) (D 19 (g * 6 + t) + m_up (m_up D 18 l 0) 18 l (nI (p_amt S l)) 18 l) = _
            rw [m_up_s]
          · show upd (D 20) g (D 20 g + m_up (m_up D 18 l 0) 18 l (nI (p_amt S l)) 18 l) = _
            rw [m_up_s]
