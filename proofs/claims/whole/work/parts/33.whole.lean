/-! ===== whole ===== -/
theorem or0 (x : Int32) : x ||| 0 = x := Int32.or_zero
theorem c_hang {L d : Nat} {S : SH} {D : m_D} {Q : m_K} (r1 : D 34 1 = nI S.1) (hn6 : S.1 ≤ 6) (hF : ∀ i, i < S.1 → D 46 i = oI (p_hour S i)) (h : Q (some (.int (p_hang S S.1))) D) : m_call L (d + 1) 115 [.ref 34] D Q := by
  have key : ∀ (m l : Nat), l + m = S.1 → m_V L d Q t_X5_thoseThatHang 1 (4, [some (.ref 34), some (.int (p_hang S l)), some (.int (nI l))], [], D) := by
    intro m
    induction m with
    | zero =>
      intro l hm
      have hm : l = S.1 := by omega
      subst hm
      refine v_go rfl ?_
      rw [r1]
      refine v_bT rfl (Int32.le_refl _) ?_
      exact v_go rfl (v_rt rfl trivial h)
    | succ m ih =>
      intro l hm
      have hin : vp_in (nI l) 6 := vp_in_nI (by omega) (by omega)
      have hcl : (nI l).toNatClampNeg = l := nI_clamp (by omega)
      have hle : ∀ q, p_hour S l = some q → q ≤ l := (p_fr_ok S l S.2.1).1
      have ih := ih (l + 1) (by omega)
      rw [← nI_1] at ih
      have e : p_hang S (l + 1) = if p_hour S l = none then p_hang S l ||| (1 <<< (nI l &&& 31)) else p_hang S l := rfl
      rw [e] at ih
      refine v_go rfl ?_
      rw [r1]
      refine v_bF rfl (nI_ge (by omega) (by omega)) ?_
      refine v_go rfl ?_
      refine v_sd rfl hin ?_
      rw [hcl, hF l (by omega)]
      cases hh : p_hour S l with
      | none =>
        rw [if_pos hh] at ih
        refine v_bF rfl (by decide) ?_
        exact v_run 8 rfl ih
      | some t =>
        have ht := hle t hh
        rw [if_neg (by rw [hh]; exact fun z => by cases z), ← or0 (p_hang S l)] at ih
        refine v_bT rfl (nI_pos' (by omega)) ?_
        exact v_run 5 rfl ih
  refine v_in (tb' := t_X5_thoseThatHang) (rk' := 1) rfl rfl rfl ?_
  exact v_run 4 rfl (key S.1 0 (by omega))
theorem c_mud {L d : Nat} {S : SH} {D : m_D} {Q : m_K} (r1 : D 34 1 = nI S.1) (hn6 : S.1 ≤ 6) (hk3 : S.2.1 ≤ 3) (hF : ∀ i, i < S.1 → D 46 i = oI (p_hour S i) ∧ D 47 i = oI (p_by S i)) (h : Q (some (.int (p_mud S S.1))) D) : m_call L (d + 1) 116 [.ref 34] D Q := by
  have key : ∀ (m l : Nat), l + m = S.1 → m_V L d Q t_X5_thoseOfMud 1 (4, [some (.ref 34), some (.int (p_mud S l)), some (.int (nI l))], [], D) := by
    intro m
    induction m with
    | zero =>
      intro l hm
      have hm : l = S.1 := by omega
      subst hm
      refine v_go rfl ?_
      rw [r1]
      refine v_bT rfl (Int32.le_refl _) ?_
      exact v_go rfl (v_rt rfl trivial h)
    | succ m ih =>
      intro l hm
      have hin : vp_in (nI l) 6 := vp_in_nI (by omega) (by omega)
      have hcl : (nI l).toNatClampNeg = l := nI_clamp (by omega)
      obtain ⟨q1, q2⟩ := p_fr_ok S l S.2.1
      have ih := ih (l + 1) (by omega)
      rw [← nI_1] at ih
      have e : p_mud S (l + 1) = if ¬ p_hour S l = none ∧ p_by S l = none then p_mud S l ||| (1 <<< (nI l &&& 31)) else p_mud S l := rfl
      rw [e] at ih
      obtain ⟨f1, f2⟩ := hF l (by omega)
      refine v_go rfl ?_
      rw [r1]
      refine v_bF rfl (nI_ge (by omega) (by omega)) ?_
      refine v_go rfl ?_
      refine v_sd rfl hin ?_
      rw [hcl, f1]
      cases hh : p_hour S l with
      | none =>
        rw [if_neg (fun z => z.1 hh), ← or0 (p_mud S l)] at ih
        refine v_bT rfl (by decide) ?_
        exact v_run 5 rfl ih
      | some t =>
        have ht := q1 t hh
        refine v_bF rfl (nI_pos (by omega)) ?_
        refine v_go rfl ?_
        refine v_sd rfl hin ?_
        rw [hcl, f2]
        cases hb : p_by S l with
        | none =>
          rw [if_pos ⟨by rw [hh]; exact fun z => (by cases z), hb⟩] at ih
          refine v_bF rfl (by decide) ?_
          exact v_run 8 rfl ih
        | some c =>
          have hc := (q2 c hb).1
          rw [if_neg (fun z => by rw [hb] at z; cases z.2), ← or0 (p_mud S l)] at ih
          refine v_bT rfl (nI_pos' (by omega)) ?_
          exact v_run 5 rfl ih
  refine v_in (tb' := t_X5_thoseOfMud) (rk' := 1) rfl rfl rfl ?_
  exact v_run 4 rfl (key S.1 0 (by omega))
/-- counting, and the first, upwards and downwards -/
def p_cnt (P : Nat → Bool) : Nat → Nat
  | 0 => 0
  | n + 1 => p_cnt P n + (if P n then 1 else 0)
def p_fst (P : Nat → Bool) : Nat → Option Nat
  | 0 => none
  | n + 1 => match p_fst P n with
    | some i => some i
    | none => if P n then some n else none
def p_cntR (P : Nat → Bool) : Nat → Nat → Nat
  | _, 0 => 0
  | i, m + 1 => (if P i then 1 else 0) + p_cntR P (i + 1) m
def p_fstR (P : Nat → Bool) : Nat → Nat → Option Nat
  | _, 0 => none
  | i, m + 1 => if P i then some i else p_fstR P (i + 1) m
theorem p_cnt_R (P : Nat → Bool) : ∀ m i, p_cnt P (i + m) = p_cnt P i + p_cntR P i m
  | 0, i => rfl
  | m + 1, i => by
    have h := p_cnt_R P m (i + 1)
    rw [show i + (m + 1) = i + 1 + m by omega, h]
    show p_cnt P i + (if P i then 1 else 0) + p_cntR P (i + 1) m = p_cnt P i + ((if P i then 1 else 0) + p_cntR P (i + 1) m)
    omega
theorem p_fst_R (P : Nat → Bool) : ∀ m i, p_fst P i = none → p_fst P (i + m) = p_fstR P i m
  | 0, i, h => h
  | m + 1, i, h => by
    rw [show i + (m + 1) = i + 1 + m by omega]
    by_cases hp : P i = true
    · have e : p_fst P (i + 1) = some i := by
        show (match p_fst P i with
          | some i => some i
          | none => if P i then some i else none) = some i
        rw [h, if_pos hp]
      have keep : ∀ m, p_fst P (i + 1 + m) = some i := by
        intro m
        induction m with
        | zero => exact e
        | succ m ih =>
          show (match p_fst P (i + 1 + m) with
            | some i => some i
            | none => if P (i + 1 + m) then some (i + 1 + m) else none) = some i
          rw [ih]
      rw [keep]
      show some i = if P i then some i else _
      rw [if_pos hp]
    · have e : p_fst P (i + 1) = none := by
        show (match p_fst P i with
          | some i => some i
          | none => if P i then some i else none) = none
        rw [h, if_neg hp]
      rw [p_fst_R P m (i + 1) e]
      show _ = if P i then some i else _
      rw [if_neg hp]
theorem p_fst_lt (P : Nat → Bool) : ∀ n i, p_fst P n = some i → i < n
  | 0, i, h => by cases h
  | n + 1, i, h => by
    have h : (match p_fst P n with
      | some i => some i
      | none => if P n then some n else none) = some i := h
    cases e : p_fst P n with
    | some j =>
      rw [e] at h
      have h3 : j = i := Option.some.inj h
      have h2 := p_fst_lt P n j e
      omega
    | none =>
      rw [e] at h
      dsimp only at h
      split at h
      · cases h
        omega
      · cases h
def p_w (S : SH) (b : Nat) : Bool := decide (p_hang (begS S b) S.1 = 0 ∧ p_mud (begS S b) S.1 = 0)
/-- k: -1, or one of three -/
theorem m1_3 (x : Int32) : (¬ x < -1 ∧ x < 3) ↔ (x = -1 ∨ vp_in x 3) := by
  rw [vp_in_iff, Int32.lt_iff_toInt_lt, Int32.lt_iff_toInt_lt, ← Int32.toInt_inj]
  have e1 : (-1 : Int32).toInt = -1 := by decide
  have e3 : (3 : Int32).toInt = 3 := by decide
  rw [e1, e3]
  omega
theorem m1_3l (x : Int32) : ((-1 : Int64) ≤ x.toInt64 ∧ x.toInt64 ≤ 2) ↔ (x = -1 ∨ vp_in x 3) := by
  rw [vp_in_iff, Int64.le_iff_toInt_le, Int64.le_iff_toInt_le, Int32.toInt_toInt64, ← Int32.toInt_inj]
  have e1 : (-1 : Int64).toInt = -1 := by decide
  have e3 : (2 : Int64).toInt = 2 := by decide
  have e2 : (-1 : Int32).toInt = -1 := by decide
  rw [e1, e3, e2]
  omega
def p_st (S : SH) (x : Int32) : Option Nat → Int32
  | none => -9
  | some b => if x.toNatClampNeg < S.2.1 then nI (p_dig S b x.toNatClampNeg) else -9
def sp_whole (S : SH) (x : Int32) : Int32 := if x = -1 then nI (p_cnt (p_w S) (p_nb S)) else p_st S x (p_fst (p_w S) (p_nb S))
theorem c_trialStart {L d : Nat} {x : Int32} {S : SH} {D : m_D} {Q : m_K} (fb : Option Nat) (hr1 : relC 1 D S) (hr : trB S D) (ho : okS S) (hn : S.1 ≠ 0) (hb : ∀ b, fb = some b → b < 1000) (hx : vp_in x 3) (h : ∀ D', m_fr [13] D D' → Q (some (.int (p_st S x fb))) D') : m_call L (d + 2) 46 [.ref 0, .int (oI fb), .int x] D Q := by
  obtain ⟨c, hc, rfl⟩ := vp_in_of hx (by omega)
  have hcl : (nI c).toNatClampNeg = c := nI_clamp (by omega)
  have hk3 := ho.2.1
  match fb, hb, h with
  | none, _, h =>
    refine v_in (tb' := t_X4_startIn) (rk' := 1) rfl rfl rfl ?_
    refine v_go rfl ?_
    refine v_bT rfl rfl ?_
    exact v_go rfl (v_rt rfl trivial (h D (m_fr.refl _ _)))
  | some b, hb, h =>
    have hb := hb b rfl
    by_cases hck : c < S.2.1
    · refine c_startInC hr1 hr ho hn hb hck (fun D2 hf2 => ?_)
      have h : Q (some (.int (if (nI c).toNatClampNeg < S.2.1 then nI (p_dig S b (nI c).toNatClampNeg) else -9))) D2 := h D2 hf2
      rw [hcl, if_pos hck] at h
      exact h
    · have h : Q (some (.int (if (nI c).toNatClampNeg < S.2.1 then nI (p_dig S b (nI c).toNatClampNeg) else -9))) D := h D (m_fr.refl _ _)
      rw [hcl, if_neg hck] at h
      refine v_in (tb' := t_X4_startIn) (rk' := 1) rfl rfl rfl ?_
      refine v_go rfl ?_
      refine v_bF rfl (nI_m9 (by omega)) ?_
      refine v_go rfl ?_
      refine v_ca rfl ?_
      refine c_isCrier hr1.2.1 (by omega) (fun z => ?_) (fun _ => ?_)
      · obtain ⟨c', hc', e⟩ := vp_in_of z (by omega)
        have := (nI_eq (by omega) (by omega)).mp e
        omega
      · refine v_go rfl ?_
        refine v_bF rfl (by decide) ?_
        exact v_go rfl (v_rt rfl trivial h)
theorem relC_FT {S : SH} {D D' : m_D} (hf : m_fr z_FT D D') (h : relC 1 D S) : relC 1 D' S := relC_c (fun i hi => hf _ (by
  simp only [z_FT, List.mem_cons, List.not_mem_nil, or_false]
  omega)) h
theorem trB_F {S : SH} {b : Nat} {D D' : m_D} (hf : m_fr z_F D D') (h : relC 8 D (begS S b)) (ho : okS S) (hn : S.1 ≠ 0) : trB S D' := trB_b (relC_c (fun i hi => hf _ (z_F_B (Or.inr rfl) i hi)) h) ho hn
theorem x_whole {L : Nat} {x : Int32} {S : SH} {D : m_D} {Q : m_K} (hr : relC 1 D S) (ho : okS S) (hx : x = -1 ∨ vp_in x 3) (hn : S.1 ≠ 0) (h : ∀ D', m_fr z_FT D D' → Q (some (.int (sp_whole S x))) D') : m_call L 8 44 [.ref 0, .int x] D Q := by
  have hn6 := ho.1
  have hnb := p_nb_lt ho
  have hx2 := (m1_3 x).mpr hx
  have fin : ∀ (D1 : m_D), m_fr z_FT D D1 → trB S D1 → m_V L 7 Q t_X4_whole 1 (122, [some (.ref 0), some (.int x), some (.int (nI (p_nb S))), some (.int (nI (p_cnt (p_w S) (p_nb S)))), some (.int (oI (p_fst (p_w S) (p_nb S)))), some (.int (nI (p_nb S)))], [], D1) := by
    intro D1 hf ht
    refine v_go rfl ?_
    by_cases e : x = -1
    · refine v_bF rfl (fun z => z e) ?_
      have h := h D1 hf
      unfold sp_whole at h
      rw [if_pos e] at h
      exact v_go rfl (v_rt rfl trivial h)
    · refine v_bT rfl e ?_
      refine v_go rfl ?_
      refine v_ca rfl ?_
      refine c_trialStart _ (relC_FT hf hr) ht ho hn (fun b hb => by have := p_fst_lt _ _ _ hb; omega) (hx.resolve_left e) (fun D2 hf2 => ?_)
      have h := h D2 (hf.trans (hf2.sub (by simp)))
      unfold sp_whole at h
      rw [if_neg e] at h
      exact v_rt rfl trivial h
  have key : ∀ (m b : Nat) (D1 : m_D), b + m = p_nb S → m_fr z_FT D D1 → trB S D1 → m_V L 7 Q t_X4_whole 1 (51, [some (.ref 0), some (.int x), some (.int (nI (p_nb S))), some (.int (nI (p_cnt (p_w S) b))), some (.int (oI (p_fst (p_w S) b))), some (.int (nI b))], [], D1) := by
    intro m
    induction m with
    | zero =>
      intro b D1 hm hf ht
      have hm : b = p_nb S := by omega
      subst hm
      refine v_go rfl ?_
      refine v_bT rfl (Int32.le_refl _) ?_
      exact fin D1 hf ht
    | succ m ih =>
      intro b D1 hm hf ht
      refine v_go rfl ?_
      refine v_bF rfl (nI_ge (by omega) (by omega)) ?_
      refine v_go rfl ?_
      refine v_ca rfl ?_
      refine c_beginT ht hn (by omega) (fun D2 hf2 hr2 => ?_)
      refine v_go rfl ?_
      refine v_ca rfl ?_
      refine c_workOut (Or.inr rfl) hr2 (okS_beg ho hn) (fun D3 hf3 hF => ?_)
      have ih := ih (b + 1) D3 (by omega) ((hf.trans (hf2.sub (by simp))).trans (fF hf3)) (trB_F hf3 hr2 ho hn)
      rw [← nI_1] at ih
      have e5 : D3 15 5 = p_hang (begS S b) S.1 := hF.2.2.2.1
      have e6 : D3 15 6 = p_mud (begS S b) S.1 := hF.2.2.2.2.1
      have ec : p_cnt (p_w S) (b + 1) = p_cnt (p_w S) b + (if p_w S b then 1 else 0) := rfl
      have ef : p_fst (p_w S) (b + 1) = match p_fst (p_w S) b with
        | some i => some i
        | none => if p_w S b then some b else none := rfl
      rw [ec, ef] at ih
      have ew : p_w S b = decide (p_hang (begS S b) S.1 = 0 ∧ p_mud (begS S b) S.1 = 0) := rfl
      refine v_go rfl ?_
      rw [e5]
      by_cases g1 : p_hang (begS S b) S.1 = 0
      · refine v_bF rfl (fun z => z g1) ?_
        refine v_go rfl ?_
        rw [e6]
        by_cases g2 : p_mud (begS S b) S.1 = 0
        · have ew : p_w S b = true := by rw [ew]; exact decide_eq_true ⟨g1, g2⟩
          refine v_bF rfl (fun z => z g2) ?_
          refine v_go rfl ?_
          rw [ew, if_pos rfl, ← nI_1] at ih
          cases hq : p_fst (p_w S) b with
          | none =>
            rw [hq] at ih
            dsimp only at ih
            rw [if_pos rfl] at ih
            refine v_bF rfl (fun z => z rfl) ?_
            exact v_run 5 rfl ih
          | some i =>
            have hi := p_fst_lt _ _ _ hq
            rw [hq] at ih
            refine v_bT rfl (nI_m9 (by omega)) ?_
            exact v_run 4 rfl ih
        · have ew : p_w S b = false := by rw [ew]; exact decide_eq_false (fun z => g2 z.2)
          refine v_bT rfl g2 ?_
          rw [ew, if_neg (by decide), if_neg (by decide)] at ih
          have ih2 : m_V L 7 Q t_X4_whole 1 (51, [some (.ref 0), some (.int x), some (.int (nI (p_nb S))), some (.int (nI (p_cnt (p_w S) b))), some (.int (oI (p_fst (p_w S) b))), some (.int (nI b + 1))], [], D3) := by
            cases hq : p_fst (p_w S) b with
            | none =>
              rw [hq] at ih
              exact ih
            | some i =>
              rw [hq] at ih
              exact ih
          exact v_run 2 rfl ih2
      · have ew : p_w S b = false := by rw [ew]; exact decide_eq_false (fun z => g1 z.1)
        refine v_bT rfl g1 ?_
        rw [ew, if_neg (by decide), if_neg (by decide)] at ih
        have ih2 : m_V L 7 Q t_X4_whole 1 (51, [some (.ref 0), some (.int x), some (.int (nI (p_nb S))), some (.int (nI (p_cnt (p_w S) b))), some (.int (oI (p_fst (p_w S) b))), some (.int (nI b + 1))], [], D3) := by
          cases hq : p_fst (p_w S) b with
          | none =>
            rw [hq] at ih
            exact ih
          | some i =>
            rw [hq] at ih
            exact ih
        exact v_run 2 rfl ih2
  refine v_in (tb' := t_X4_whole) (rk' := 1) rfl rfl rfl ?_
  refine v_go rfl ?_
  refine v_bF rfl hx2.1 ?_
  refine v_go rfl ?_
  refine v_bT rfl hx2.2 ?_
  refine v_go rfl ?_
  refine v_ca rfl ?_
  refine c_hasShower hr.1 hn6 (fun _ => ?_) (fun z => absurd z hn)
  refine v_go rfl ?_
  refine v_bT rfl (by decide) ?_
  refine v_go rfl ?_
  refine v_ca rfl ?_
  refine c_become hr ho (fun D1 hf1 hr1 => ?_)
  refine v_go rfl ?_
  refine v_ca rfl ?_
  refine c_beginnings (relC_FT (fT hf1) hr) ho ?_
  exact v_run 7 rfl (key (p_nb S) 0 D1 (by omega) (fT hf1) (trB_0 hr1 ho))
