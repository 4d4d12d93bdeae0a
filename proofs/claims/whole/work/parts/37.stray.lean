/-! ===== strayed ===== -/
theorem setT_setT (S : SH) (i c v w : Nat) : setT (setT S i c v) i c w = setT S i c w := by
  unfold setT
  congr 3
  funext a b
  by_cases e : a = i ∧ b = c
  · rw [if_pos e, if_pos e]
  · rw [if_neg e, if_neg e]
    exact if_neg e
theorem setT_self (S : SH) (i c : Nat) : setT S i c (S.2.2.1 i c) = S := by
  obtain ⟨n, k, T, g⟩ := S
  unfold setT
  congr 3
  funext a b
  by_cases e : a = i ∧ b = c
  · rw [if_pos e, e.1, e.2]
  · rw [if_neg e]
def trT (i c : Nat) (S : SH) (D : m_D) : Prop := ∃ S1, relC 8 D S1 ∧ ∀ v, setT S1 i c v = setT S i c v
theorem trT_0 {i c : Nat} {S : SH} {D : m_D} (h : relC 8 D S) : trT i c S D := ⟨S, h, fun _ => rfl⟩
theorem trT_F {i c v : Nat} {S : SH} {D D' : m_D} (hf : m_fr z_F D D') (h : relC 8 D (setT S i c v)) : trT i c S D' := ⟨_, relC_c (fun i hi => hf _ (z_F_B (Or.inr rfl) i hi)) h, fun w => setT_setT S i c v w⟩
theorem trT_up {i c : Nat} {S : SH} {D : m_D} (hi : i < 5) (h : trT i c S D) (v : Nat) : relC 8 (m_up D (8 + 1 + i) c (nI v)) (setT S i c v) := by
  obtain ⟨S1, h1, h2⟩ := h
  rw [← h2 v]
  exact relC_setT hi h1
def trU (i c : Nat) (S : SH) (D : m_D) : Prop := ∃ S1, relM D S1 ∧ ∀ v, setT S1 i c v = setT S i c v
theorem trU_0 {i c : Nat} {S : SH} {D : m_D} (h : relM D S) : trU i c S D := ⟨S, h, fun _ => rfl⟩
theorem trU_R {i c v : Nat} {S : SH} {D D' : m_D} (hf : m_fM z_R [22] D D') (h : relM D (setT S i c v)) : trU i c S D' := ⟨_, relM_keep hf (by decide) (by decide) h, fun w => setT_setT S i c v w⟩
theorem trU_up {i c : Nat} {S : SH} {D : m_D} (hi : i < 5) (h : trU i c S D) (v : Nat) : relM (m_up D (35 + i) c (nI v)) (setT S i c v) := by
  obtain ⟨S1, h1, h2⟩ := h
  rw [← h2 v]
  exact relM_setT hi h1
def p_wf (S : SH) : Nat → Int32
  | 0 => 0
  | f + 1 => p_wf S f ||| (if 0 < p_wet S f S.1 then 1 <<< (nI f &&& 31) else 0)
theorem c_wetFields {L d : Nat} {S : SH} {D : m_D} {Q : m_K} (ho : okS S) (hF : ∀ f, f < 4 → D 20 f = nI (p_wet S f S.1)) (h : Q (some (.int (p_wf S 4))) D) : m_call L (d + 1) 5 [.ref 15] D Q := by
  have key : ∀ (m f : Nat), f + m = 4 → m_V L d Q t_X0_wetFields 1 (4, [some (.ref 15), some (.int (p_wf S f)), some (.int (nI f))], [], D) := by
    intro m
    induction m with
    | zero =>
      intro f hm
      have hm : f = 4 := by omega
      subst hm
      refine v_go rfl ?_
      refine v_bT rfl (Int32.le_refl _) ?_
      exact v_go rfl (v_rt rfl trivial h)
    | succ m ih =>
      intro f hm
      have hin : vp_in (nI f) 4 := vp_in_nI (by omega) (by omega)
      have hcl : (nI f).toNatClampNeg = f := nI_clamp (by omega)
      have h102 := p_wet_102 ho f
      have ih := ih (f + 1) (by omega)
      rw [← nI_1] at ih
      have e : p_wf S (f + 1) = p_wf S f ||| (if 0 < p_wet S f S.1 then 1 <<< (nI f &&& 31) else 0) := rfl
      rw [e] at ih
      refine v_go rfl ?_
      refine v_bF rfl (nI_ge (b := 4) (by omega) (by omega)) ?_
      refine v_go rfl ?_
      refine v_sd rfl hin ?_
      rw [hcl, hF f (by omega)]
      by_cases g : 0 < p_wet S f S.1
      · rw [if_pos g] at ih
        refine v_bF rfl (nI_nle g (by omega)) ?_
        exact v_run 8 rfl ih
      · rw [if_neg g] at ih
        refine v_bT rfl (nI_le (b := 0) (by omega) (by omega)) ?_
        exact v_run 5 rfl ih
  refine v_in (tb' := t_X0_wetFields) (rk' := 1) rfl rfl rfl ?_
  exact v_run 4 rfl (key 4 0 (by omega))
def p_M (S : SH) : Int32 := (1 <<< (nI S.1 &&& 31)) - 1
def p_sf (S : SH) (c : Nat) : Nat → Int32
  | 0 => p_M S
  | l + 1 => p_sf S c l &&& ((p_hang (setT S 4 c l) S.1 ||| p_mud (setT S 4 c l) S.1) ^^^ -1)
def p_sw (S : SH) (c : Nat) : Nat → Int32
  | 0 => 15
  | l + 1 => p_sw S c l &&& p_wf (setT S 4 c l) 4
def p_mf (S : SH) (c : Nat) : Nat → Int32
  | 0 => 63
  | l + 1 => p_mf S c l &&& ((p_M S &&& (p_hang (setT S 4 c l) S.1 ^^^ -1)) &&& (p_mud (setT S 4 c l) S.1 ^^^ -1))
theorem bw1 (B M h m : Int32) : (B &&& ((M &&& (h ^^^ -1)) &&& (m ^^^ -1))) &&& M = (B &&& M) &&& ((h ||| m) ^^^ -1) := by
  apply Int32.toBitVec_inj.mp
  simp only [Int32.toBitVec_and, Int32.toBitVec_or, Int32.toBitVec_xor]
  have e : (-1 : Int32).toBitVec = BitVec.allOnes 32 := by decide
  rw [e]
  apply BitVec.eq_of_getLsbD_eq
  intro i hi
  simp only [BitVec.getLsbD_and, BitVec.getLsbD_or, BitVec.getLsbD_xor, BitVec.getLsbD_allOnes, hi, decide_true]
  cases B.toBitVec.getLsbD i <;> cases M.toBitVec.getLsbD i <;> cases h.toBitVec.getLsbD i <;> cases m.toBitVec.getLsbD i <;> rfl
theorem bw2 (B M h m : Int32) : (B &&& ((M &&& h) &&& m)) &&& M = B &&& ((M &&& h) &&& m) := by
  apply Int32.toBitVec_inj.mp
  simp only [Int32.toBitVec_and]
  apply BitVec.eq_of_getLsbD_eq
  intro i hi
  simp only [BitVec.getLsbD_and]
  cases B.toBitVec.getLsbD i <;> cases M.toBitVec.getLsbD i <;> cases h.toBitVec.getLsbD i <;> cases m.toBitVec.getLsbD i <;> rfl
theorem p_M63 : ∀ n, n ≤ 6 → (63 : Int32) &&& (((1 : Int32) <<< (nI n &&& 31)) - (1 : Int32)) = ((1 : Int32) <<< (nI n &&& 31)) - (1 : Int32) := by decide +kernel
theorem p_mf_sf (S : SH) (c : Nat) (hn : S.1 ≤ 6) : ∀ l, p_mf S c l &&& p_M S = p_sf S c l
  | 0 => p_M63 S.1 hn
  | l + 1 => by
    have ih := p_mf_sf S c hn l
    show (p_mf S c l &&& ((p_M S &&& (p_hang (setT S 4 c l) S.1 ^^^ -1)) &&& (p_mud (setT S 4 c l) S.1 ^^^ -1))) &&& p_M S = p_sf S c l &&& ((p_hang (setT S 4 c l) S.1 ||| p_mud (setT S 4 c l) S.1) ^^^ -1)
    rw [bw1, ih]
theorem p_mf_eq (S : SH) (c : Nat) (hn : S.1 ≤ 6) {l : Nat} (hl : l ≠ 0) : p_mf S c l = p_sf S c l := by
  obtain ⟨q, rfl⟩ : ∃ q, l = q + 1 := ⟨l - 1, by omega⟩
  rw [← p_mf_sf S c hn]
  exact (bw2 _ _ _ _).symm
theorem wf4 : ∀ b0 b1 b2 b3 : Bool, (((((0 : Int32) ||| if b0 then (1 : Int32) <<< (nI 0 &&& 31) else (0 : Int32)) ||| if b1 then (1 : Int32) <<< (nI 1 &&& 31) else (0 : Int32)) ||| if b2 then (1 : Int32) <<< (nI 2 &&& 31) else (0 : Int32)) ||| if b3 then (1 : Int32) <<< (nI 3 &&& 31) else (0 : Int32)) = ((((if b0 then (15 : Int32) else (15 : Int32) - ((1 : Int32) <<< (nI 0 &&& 31))) &&& (if b1 then (15 : Int32) else (15 : Int32) - ((1 : Int32) <<< (nI 1 &&& 31)))) &&& (if b2 then (15 : Int32) else (15 : Int32) - ((1 : Int32) <<< (nI 2 &&& 31)))) &&& (if b3 then (15 : Int32) else (15 : Int32) - ((1 : Int32) <<< (nI 3 &&& 31)))) := by decide +kernel
def p_tf (S : SH) (f : Nat) : Int32 := if 0 < p_wet S f S.1 then (15 : Int32) else (15 : Int32) - ((1 : Int32) <<< (nI f &&& 31))
def p_ta (S : SH) (w : Int32) : Nat → Int32
  | 0 => w
  | f + 1 => p_ta S w f &&& p_tf S f
theorem p_ta4 (S : SH) (w : Int32) : p_ta S w 4 = w &&& p_wf S 4 := by
  have e := wf4 (decide (0 < p_wet S 0 S.1)) (decide (0 < p_wet S 1 S.1)) (decide (0 < p_wet S 2 S.1)) (decide (0 < p_wet S 3 S.1))
  simp only [decide_eq_true_eq] at e
  have e1 : p_wf S 4 = ((p_tf S 0 &&& p_tf S 1) &&& p_tf S 2) &&& p_tf S 3 := e
  rw [e1]
  show (((w &&& p_tf S 0) &&& p_tf S 1) &&& p_tf S 2) &&& p_tf S 3 = _
  rw [Int32.and_assoc, Int32.and_assoc, Int32.and_assoc, Int32.and_assoc, Int32.and_assoc]
def sp_stray (S : SH) (c : Nat) (y : Int32) : Int32 := if y = 0 then p_sf S c S.1 else p_sw S c S.1
theorem x_stray {L c : Nat} {y : Int32} {S : SH} {D : m_D} {Q : m_K} (hr : relC 1 D S) (ho : okS S) (hc : c < S.2.1) (hy : vp_in y 2) (h : ∀ D', m_fr z_FT D D' → Q (some (.int (sp_stray S c y))) D') : m_call L 8 47 [.ref 0, .int (nI c), .int y] D Q := by
  have hn6 := ho.1
  have hk3 := ho.2.1
  have hin : vp_in (nI c) 3 := vp_in_nI (by omega) (by omega)
  have hcl : (nI c).toNatClampNeg = c := nI_clamp (by omega)
  have r1 : D 1 0 = nI S.1 := hr.1
  have key : ∀ (m l : Nat) (D1 : m_D), l + m = S.1 → m_fr z_FT D D1 → trT 4 c S D1 → m_V L 7 Q t_X4_strayed 1 (56, [some (.ref 0), some (.int (nI c)), some (.int y), some (.int (if y = 0 then p_sf S c l else p_sw S c l)), some (.int (nI l))], [], D1) := by
    intro m
    induction m with
    | zero =>
      intro l D1 hm hf ht
      have hm : l = S.1 := by omega
      subst hm
      have r1 : D1 1 0 = nI S.1 := by rw [hf 1 (by simp)]; exact r1
      refine v_go rfl ?_
      rw [r1]
      refine v_bT rfl (Int32.le_refl _) ?_
      exact v_go rfl (v_rt rfl trivial (h D1 hf))
    | succ m ih =>
      intro l D1 hm hf ht
      have r1 : D1 1 0 = nI S.1 := by rw [hf 1 (by simp)]; exact r1
      have hr2 := trT_up (by omega) ht l
      have hf2 : m_fr z_FT D (m_up D1 13 c (nI l)) := hf.up (by simp)
      have ho2 : okS (setT S 4 c l) := okS_setT ho ⟨by omega, by omega, by omega, by omega, fun _ => by omega⟩
      refine v_go rfl ?_
      rw [r1]
      refine v_bF rfl (nI_ge (by omega) (by omega)) ?_
      refine v_go rfl ?_
      refine v_sd rfl hin ?_
      rw [hcl]
      refine v_go rfl ?_
      refine v_ca rfl ?_
      refine c_workOut (Or.inr rfl) hr2 ho2 (fun D3 hf3 hF => ?_)
      have ih := ih (l + 1) D3 (by omega) (hf2.trans (fF hf3)) (trT_F hf3 hr2)
      rw [← nI_1] at ih
      have e5 : D3 15 5 = p_hang (setT S 4 c l) S.1 := hF.2.2.2.1
      have e6 : D3 15 6 = p_mud (setT S 4 c l) S.1 := hF.2.2.2.2.1
      refine v_go rfl ?_
      by_cases e : y = 0
      · rw [if_pos e] at ih ⊢
        have ih : m_V L 7 Q t_X4_strayed 1 (56, [some (.ref 0), some (.int (nI c)), some (.int y), some (.int (p_sf S c l &&& ((p_hang (setT S 4 c l) S.1 ||| p_mud (setT S 4 c l) S.1) ^^^ -1))), some (.int (nI l + 1))], [], D3) := ih
        rw [← e5, ← e6] at ih
        refine v_bF rfl (fun z => z e) ?_
        exact v_run 14 rfl ih
      · rw [if_neg e] at ih ⊢
        refine v_bT rfl e ?_
        refine v_go rfl ?_
        refine v_ca rfl ?_
        refine c_wetFields ho2 hF.2.2.1 ?_
        exact v_run 4 rfl ih
  refine v_in (tb' := t_X4_strayed) (rk' := 1) rfl rfl rfl ?_
  refine v_go rfl ?_
  refine v_ca rfl ?_
  refine c_isCrier hr.2.1 (by omega) (fun _ => ?_) (fun z => absurd (vp_in_nI hc (by omega)) z)
  refine v_go rfl ?_
  refine v_bT rfl (by decide) ?_
  refine v_go rfl ?_
  refine v_ca rfl ?_
  refine c_isWithin (n := 1) (by omega) (fun _ => ?_) (fun z => absurd hy z)
  refine v_go rfl ?_
  refine v_bT rfl (by decide) ?_
  refine v_go rfl ?_
  refine v_ca rfl ?_
  refine c_become hr ho (fun D1 hf1 hr1 => ?_)
  have key := key S.1 0 D1 (by omega) (fT hf1) (trT_0 hr1)
  have r1 : D1 1 0 = nI S.1 := by rw [hf1 1 (by simp)]; exact r1
  refine v_go rfl ?_
  by_cases e : y = 0
  · rw [if_pos e] at key
    refine v_bF rfl (fun z => z e) ?_
    have key : m_V L 7 Q t_X4_strayed 1 (56, [some (.ref 0), some (.int (nI c)), some (.int y), some (.int ((1 <<< (nI S.1 &&& 31)) - 1)), some (.int (nI 0))], [], D1) := key
    rw [← r1] at key
    exact v_run 11 rfl key
  · rw [if_neg e] at key
    refine v_bT rfl e ?_
    exact v_run 4 rfl key
theorem y_stray {L c : Nat} {y : Int32} {S : SH} {D : m_D} {Q : m_K} (hr : relM D S) (ho : okS S) (hn : S.1 ≠ 0) (hc : c < S.2.1) (hy : vp_in y 2) (h : ∀ D', m_fM z_MT [22] D D' → relM D' S → Q (some (.int (sp_stray S c y))) D') : m_call L 8 137 [.ref 34, .int (nI c), .int y] D Q := by
  have hn6 := ho.1
  have hk3 := ho.2.1
  have hin : vp_in (nI c) 3 := vp_in_nI (by omega) (by omega)
  have hcl : (nI c).toNatClampNeg = c := nI_clamp (by omega)
  have r1 : D 34 1 = nI S.1 := hr.1
  have r39 : D 39 c = nI (S.2.2.1 4 c) := (hr.2.2.2.1 c hc).2.2
  have key : ∀ (m l : Nat) (z : Option Value) (D1 : m_D), l + m = S.1 → m_fM z_MT [22] D D1 → trU 4 c S D1 → m_V L 7 Q t_X5_strayed 1 (41, [some (.ref 34), some (.int (nI c)), some (.int y), some (.int (nI (S.2.2.1 4 c))), some (.int (p_mf S c l)), some (.int (p_sw S c l)), some (.int (nI l)), z], [], D1) := by
    intro m
    induction m with
    | zero =>
      intro l z D1 hm hf ht
      have hm : l = S.1 := by omega
      subst hm
      have r1 : D1 34 1 = nI S.1 := by rw [hf.2 1 (by simp)]; exact r1
      have hr2 := trU_up (by omega) ht (S.2.2.1 4 c)
      rw [setT_self] at hr2
      have hf2 : m_fM z_MT [22] D (m_up D1 39 c (nI (S.2.2.1 4 c))) := hf.up (by simp) (by decide)
      have h := h _ hf2 hr2
      unfold sp_stray at h
      rw [p_mf_eq S c hn6 hn]
      refine v_go rfl ?_
      rw [r1]
      refine v_bT rfl (Int32.le_refl _) ?_
      refine v_go rfl ?_
      refine v_sd rfl hin ?_
      rw [hcl]
      refine v_go rfl ?_
      by_cases e : y = 0
      · rw [if_pos e] at h
        refine v_bF rfl (fun z => z e) ?_
        exact v_go rfl (v_rt rfl trivial h)
      · rw [if_neg e] at h
        refine v_bT rfl e ?_
        exact v_go rfl (v_rt rfl trivial h)
    | succ m ih =>
      intro l z D1 hm hf ht
      have r1 : D1 34 1 = nI S.1 := by rw [hf.2 1 (by simp)]; exact r1
      have hr2 := trU_up (by omega) ht l
      have hf2 : m_fM z_MT [22] D (m_up D1 39 c (nI l)) := hf.up (by simp) (by decide)
      have ho2 : okS (setT S 4 c l) := okS_setT ho ⟨by omega, by omega, by omega, by omega, fun _ => by omega⟩
      refine v_go rfl ?_
      rw [r1]
      refine v_bF rfl (nI_ge (by omega) (by omega)) ?_
      refine v_go rfl ?_
      refine v_sd rfl hin ?_
      rw [hcl]
      refine v_go rfl ?_
      refine v_ca rfl ?_
      refine c_rains hr2 ho2 (fun D3 hf3 hF => ?_)
      have hr3 := relM_keep hf3 (by decide) (by decide) hr2
      have r3 : D3 34 1 = nI S.1 := hr3.1
      have ih := fun z => ih (l + 1) z D3 (by omega) (hf2.trans (mtR hf3)) (trU_R hf3 hr2)
      rw [← nI_1] at ih
      have e1 : p_sw S c (l + 1) = p_ta (setT S 4 c l) (p_sw S c l) 4 := (p_ta4 _ _).symm
      rw [e1] at ih
      refine v_go rfl ?_
      refine v_ca rfl ?_
      refine c_hang (S := setT S 4 c l) r3 hn6 (fun i hi => (hF.1 i hi).1) ?_
      refine v_go rfl ?_
      refine v_ca rfl ?_
      refine c_mud (S := setT S 4 c l) r3 hn6 hk3 (fun i hi => ⟨(hF.1 i hi).1, (hF.1 i hi).2.1⟩) ?_
      rw [r3]
      have inner : ∀ (q f : Nat), f + q = 4 → m_V L 7 Q t_X5_strayed 1 (92, [some (.ref 34), some (.int (nI c)), some (.int y), some (.int (nI (S.2.2.1 4 c))), some (.int (p_mf S c (l + 1))), some (.int (p_ta (setT S 4 c l) (p_sw S c l) f)), some (.int (nI l)), some (.int (nI f))], [], D3) := by
        intro q
        induction q with
        | zero =>
          intro f hq
          have hq : f = 4 := by omega
          subst hq
          refine v_go rfl ?_
          refine v_bT rfl (Int32.le_refl _) ?_
          exact v_run 2 rfl (ih _)
        | succ q ih2 =>
          intro f hq
          have hin2 : vp_in (nI f) 4 := vp_in_nI (by omega) (by omega)
          have hcl2 : (nI f).toNatClampNeg = f := nI_clamp (by omega)
          have h102 := p_wet_102 ho2 f
          have ih2 := ih2 (f + 1) (by omega)
          rw [← nI_1] at ih2
          have e : p_ta (setT S 4 c l) (p_sw S c l) (f + 1) = p_ta (setT S 4 c l) (p_sw S c l) f &&& (if 0 < p_wet (setT S 4 c l) f (setT S 4 c l).1 then (15 : Int32) else (15 : Int32) - ((1 : Int32) <<< (nI f &&& 31))) := rfl
          rw [e] at ih2
          refine v_go rfl ?_
          refine v_bF rfl (nI_ge (b := 4) (by omega) (by omega)) ?_
          refine v_go rfl ?_
          refine v_sd rfl hin2 ?_
          rw [hcl2, hF.2.2.1 f (by omega)]
          by_cases g : 0 < p_wet (setT S 4 c l) f (setT S 4 c l).1
          · rw [if_pos g] at ih2
            refine v_bF rfl (nI_nle g (by omega)) ?_
            exact v_run 6 rfl ih2
          · rw [if_neg g] at ih2
            refine v_bT rfl (nI_le (b := 0) (by omega) (by omega)) ?_
            exact v_run 9 rfl ih2
      exact v_run 7 rfl (inner 4 0 (by omega))
  refine v_in (tb' := t_X5_strayed) (rk' := 1) rfl rfl rfl ?_
  refine v_go rfl ?_
  refine v_ca rfl ?_
  refine c_noCrier hr.2.1 (by omega) (fun _ => ?_) (fun z => absurd (vp_in_nI hc (by omega)) z)
  refine v_go rfl ?_
  refine v_bT rfl rfl ?_
  refine v_go rfl ?_
  refine v_ca rfl ?_
  refine c_in (fun _ _ => ?_) (fun z => absurd ((in_iff (n := 2) (by decide)).mpr hy) z)
  refine v_go rfl ?_
  refine v_bT rfl (by decide) ?_
  refine v_go rfl ?_
  refine v_sd rfl hin ?_
  rw [hcl, r39]
  exact v_run 7 rfl (key S.1 0 none D (by omega) (m_fM.refl _ _ _) (trU_0 hr))
theorem s_strayed (x y : Int32) : StepI 47 137 [.int x, .int y] := by
  intro L Z hz
  obtain ⟨S, rd, sh, tr, fl⟩ := Z
  have hoS : okS S := hz.1
  have hn6 : S.1 ≤ 6 := hoS.1
  have hnk : S.1 = 0 ↔ S.2.1 = 0 := hz.2.1
  have hk3 : S.2.1 ≤ 3 := hoS.2.1
  by_cases hx : vp_in x S.2.1
  · by_cases hy : vp_in y 2
    · obtain ⟨c, hc, rfl⟩ := vp_in_of hx (by omega)
      have hn : S.1 ≠ 0 := fun z => by
        have := hnk.mp z
        omega
      refine ⟨sp_stray S c y, (S, rd, sh, tr, fl), hz, fun D Q hI h => ?_, fun D Q hI h => ?_⟩
      · exact x_stray hI.1 hoS hc hy (fun D' hf => h D' (frC_FT hf) (InvC_FT hI hf))
      · exact y_stray hI.1 hoS hn hc hy (fun D' hf hr => h D' (frM_MT hf) (InvM_MT hI hr hf))
    · refine ⟨-2, (S, rd, sh, tr, fl), hz, fun D Q hI h => ?_, fun D Q hI h => ?_⟩
      · refine v_in (tb' := t_X4_strayed) (rk' := 1) rfl rfl rfl ?_
        refine v_go rfl ?_
        refine v_ca rfl ?_
        refine c_isCrier hI.1.2.1 (show S.2.1 ≤ 6 by omega) (fun _ => ?_) (fun z => absurd hx z)
        refine v_go rfl ?_
        refine v_bT rfl (by decide) ?_
        refine v_go rfl ?_
        refine v_ca rfl ?_
        refine c_isWithin (n := 1) (by omega) (fun z => absurd z hy) (fun _ => ?_)
        refine v_go rfl ?_
        refine v_bF rfl (by decide) ?_
        exact v_go rfl (v_rt rfl trivial (h _ (frC.refl _) hI))
      · refine v_in (tb' := t_X5_strayed) (rk' := 1) rfl rfl rfl ?_
        refine v_go rfl ?_
        refine v_ca rfl ?_
        refine c_noCrier hI.1.2.1 (show S.2.1 ≤ 6 by omega) (fun _ => ?_) (fun z => absurd hx z)
        refine v_go rfl ?_
        refine v_bT rfl rfl ?_
        refine v_go rfl ?_
        refine v_ca rfl ?_
        refine c_in (fun p1 p2 => absurd ((in_iff (n := 2) (by decide)).mp ⟨p1, p2⟩) hy) (fun _ => ?_)
        refine v_go rfl ?_
        refine v_bF rfl (by decide) ?_
        exact v_go rfl (v_rt rfl trivial (h _ (frM.refl _) hI))
  · refine ⟨-1, (S, rd, sh, tr, fl), hz, fun D Q hI h => ?_, fun D Q hI h => ?_⟩
    · refine v_in (tb' := t_X4_strayed) (rk' := 1) rfl rfl rfl ?_
      refine v_go rfl ?_
      refine v_ca rfl ?_
      refine c_isCrier hI.1.2.1 (show S.2.1 ≤ 6 by omega) (fun z => absurd z hx) (fun _ => ?_)
      refine v_go rfl ?_
      refine v_bF rfl (by decide) ?_
      exact v_go rfl (v_rt rfl trivial (h _ (frC.refl _) hI))
    · refine v_in (tb' := t_X5_strayed) (rk' := 1) rfl rfl rfl ?_
      refine v_go rfl ?_
      refine v_ca rfl ?_
      refine c_noCrier hI.1.2.1 (show S.2.1 ≤ 6 by omega) (fun z => absurd z hx) (fun _ => ?_)
      refine v_go rfl ?_
      refine v_bF rfl (by decide) ?_
      exact v_go rfl (v_rt rfl trivial (h _ (frM.refl _) hI))
