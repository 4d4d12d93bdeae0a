/-! ===== how many bits; many ===== -/
def bcE (x : Int32) : Int32 :=
  let a := x - ((x.toUInt32 >>> ((1 : Int32).toUInt32 &&& Int32.toUInt32 31)).toInt32 &&& 1431655765)
  let b := (a &&& 858993459) + ((a.toUInt32 >>> ((2 : Int32).toUInt32 &&& Int32.toUInt32 31)).toInt32 &&& 858993459)
  let c := (b + (b.toUInt32 >>> ((4 : Int32).toUInt32 &&& Int32.toUInt32 31)).toInt32) &&& 252645135
  let d := c + (c.toUInt32 >>> ((8 : Int32).toUInt32 &&& Int32.toUInt32 31)).toInt32
  let e := d + (d.toUInt32 >>> ((16 : Int32).toUInt32 &&& Int32.toUInt32 31)).toInt32
  e &&& 63
def popN : Nat → Nat → Nat
  | 0, _ => 0
  | k + 1, m => m % 2 + popN k (m / 2)
theorem bcE_ok : ∀ m, m < 64 → bcE (nI m) = nI (popN 6 m) := by decide +kernel
theorem c_bitCount {L d m : Nat} {D : m_D} {Q : m_K} (hm : m < 64) (h : Q (some (.int (nI (popN 6 m)))) D) : m_call L (d + 1) 166 [.int (nI m)] D Q := by
  rw [← bcE_ok m hm] at h
  refine v_in (tb' := t_J6_bitCount_0f7a4) (rk' := 1) rfl rfl rfl ?_
  refine v_go rfl ?_
  exact v_rt rfl trivial h
theorem popN_0 : ∀ k, popN k 0 = 0
  | 0 => rfl
  | k + 1 => by
    show 0 % 2 + popN k (0 / 2) = 0
    rw [show 0 / 2 = 0 from rfl, popN_0 k]
theorem c_bits {L d m : Nat} {D : m_D} {Q : m_K} (hm : m < 64) (h : Q (some (.int (nI (popN 6 m)))) D) : m_call L (d + 1) 92 [.int (nI m)] D Q := by
  have key : ∀ (k a b : Nat), b < 2 ^ k → k ≤ 6 → a + popN k b = popN 6 m → m_V L d Q t_X5_bits 1 (4, [some (.int (nI m)), some (.int (nI a)), some (.int (nI b))], [], D) := by
    intro k
    induction k with
    | zero =>
      intro a b hb _ he
      have hb : b = 0 := by omega
      subst hb
      have he : a = popN 6 m := he
      refine v_go rfl ?_
      refine v_bT rfl (by decide) ?_
      refine v_go rfl ?_
      rw [he]
      exact v_rt rfl trivial h
    | succ k ih =>
      intro a b hb hk he
      have h64 : 2 ^ (k + 1) ≤ 64 := by
        have : 2 ^ (k + 1) ≤ 2 ^ 6 := Nat.pow_le_pow_right (by omega) hk
        exact this
      by_cases e0 : b = 0
      · subst e0
        rw [popN_0] at he
        have he : a = popN 6 m := he
        refine v_go rfl ?_
        refine v_bT rfl (by decide) ?_
        refine v_go rfl ?_
        rw [he]
        exact v_rt rfl trivial h
      · have hk2 := ih (a + b % 2) (b / 2) (by rw [Nat.pow_succ] at hb; omega) (by omega) (by
          have he : a + (b % 2 + popN k (b / 2)) = popN 6 m := he
          omega)
        rw [← nI_add] at hk2
        have e1 : nI b &&& 1 = nI (b % 2) := pk_andN (m := 1) (by omega) 1 (by decide)
        have e2 : nI b >>> ((1 : Int32) &&& 31) = nI (b / 2) := pk_shrN (by omega) _ 1 (by decide)
        rw [← e1, ← e2] at hk2
        refine v_go rfl ?_
        refine v_bF rfl (nI_nle (by omega) (by omega)) ?_
        exact v_run 11 rfl hk2
  refine v_in (tb' := t_X5_bits) (rk' := 1) rfl rfl rfl ?_
  exact v_run 4 rfl (key 6 0 m (by omega) (by omega) (by omega))
def cB (b : Bool) : Nat := if b then 1 else 0
theorem pop4 : ∀ b0 b1 b2 b3 : Bool, popN 6 ((((0 + if b0 then 2 ^ 0 else 0) + if b1 then 2 ^ 1 else 0) + if b2 then 2 ^ 2 else 0) + if b3 then 2 ^ 3 else 0) = cB b0 + cB b1 + cB b2 + cB b3 := by decide +kernel
theorem pop6 : ∀ b0 b1 b2 b3 b4 b5 : Bool, popN 6 ((((((0 + if b0 then 2 ^ 0 else 0) + if b1 then 2 ^ 1 else 0) + if b2 then 2 ^ 2 else 0) + if b3 then 2 ^ 3 else 0) + if b4 then 2 ^ 4 else 0) + if b5 then 2 ^ 5 else 0) = cB b0 + cB b1 + cB b2 + cB b3 + cB b4 + cB b5 := by decide +kernel
theorem b_sum_lt (b : Nat → Bool) : ∀ n, b_sum b n < 2 ^ n
  | 0 => (by show 0 < 1; omega)
  | n + 1 => by
    have h := b_sum_lt b n
    show b_sum b n + (if b n then 2 ^ n else 0) < 2 ^ (n + 1)
    rw [Nat.pow_succ]
    split <;> omega
/-- all coughs -/
def p_cg (S : SH) : Nat := popN 6 (b_sum (fun f => S.2.2.2 f 0) 4) + popN 6 (b_sum (fun f => S.2.2.2 f 1) 4) + popN 6 (b_sum (fun f => S.2.2.2 f 2) 4) + popN 6 (b_sum (fun f => S.2.2.2 f 3) 4) + popN 6 (b_sum (fun f => S.2.2.2 f 4) 4) + popN 6 (b_sum (fun f => S.2.2.2 f 5) 4)
theorem p_cg_eq (S : SH) : p_cg S = popN 6 (b_sum (fun t => S.2.2.2 0 t) 6) + popN 6 (b_sum (fun t => S.2.2.2 1 t) 6) + popN 6 (b_sum (fun t => S.2.2.2 2 t) 6) + popN 6 (b_sum (fun t => S.2.2.2 3 t) 6) := by
  have e4 : ∀ b : Nat → Bool, popN 6 (b_sum b 4) = cB (b 0) + cB (b 1) + cB (b 2) + cB (b 3) := fun b => pop4 (b 0) (b 1) (b 2) (b 3)
  have e6 : ∀ b : Nat → Bool, popN 6 (b_sum b 6) = cB (b 0) + cB (b 1) + cB (b 2) + cB (b 3) + cB (b 4) + cB (b 5) := fun b => pop6 (b 0) (b 1) (b 2) (b 3) (b 4) (b 5)
  unfold p_cg
  rw [e4, e4, e4, e4, e4, e4, e6, e6, e6, e6]
  omega
theorem c_coughCount {L d : Nat} {S : SH} {D : m_D} {Q : m_K} (hr : relC 1 D S) (h : Q (some (.int (nI (p_cg S)))) D) : m_call L (d + 2) 17 [.ref 1] D Q := by
  have h5 := hr.2.2.2.2
  have hb : ∀ t, b_sum (fun f => S.2.2.2 f t) 4 < 64 := fun t => Nat.lt_of_lt_of_le (b_sum_lt _ 4) (by decide)
  unfold p_cg at h
  refine v_in (tb' := t_X2_coughCount) (rk' := 1) rfl rfl rfl ?_
  refine v_go rfl ?_
  refine v_bF rfl (by decide) ?_
  refine v_go rfl ?_
  refine v_sd rfl (vp_in_nI (n := 0) (by omega) (by omega)) ?_
  refine v_ca rfl ?_
  refine Eq.mp (congrArg (fun z => m_call L (d + 1) 166 [.int z] _ _) (h5 0 (by omega)).symm) ?_
  refine c_bitCount (hb 0) ?_
  refine v_go rfl ?_
  refine v_bF rfl (by decide) ?_
  refine v_go rfl ?_
  refine v_sd rfl (vp_in_nI (n := 1) (by omega) (by omega)) ?_
  refine v_ca rfl ?_
  refine Eq.mp (congrArg (fun z => m_call L (d + 1) 166 [.int z] _ _) (h5 1 (by omega)).symm) ?_
  refine c_bitCount (hb 1) ?_
  refine v_go rfl ?_
  refine v_bF rfl (by decide) ?_
  refine v_go rfl ?_
  refine v_sd rfl (vp_in_nI (n := 2) (by omega) (by omega)) ?_
  refine v_ca rfl ?_
  refine Eq.mp (congrArg (fun z => m_call L (d + 1) 166 [.int z] _ _) (h5 2 (by omega)).symm) ?_
  refine c_bitCount (hb 2) ?_
  refine v_go rfl ?_
  refine v_bF rfl (by decide) ?_
  refine v_go rfl ?_
  refine v_sd rfl (vp_in_nI (n := 3) (by omega) (by omega)) ?_
  refine v_ca rfl ?_
  refine Eq.mp (congrArg (fun z => m_call L (d + 1) 166 [.int z] _ _) (h5 3 (by omega)).symm) ?_
  refine c_bitCount (hb 3) ?_
  refine v_go rfl ?_
  refine v_bF rfl (by decide) ?_
  refine v_go rfl ?_
  refine v_sd rfl (vp_in_nI (n := 4) (by omega) (by omega)) ?_
  refine v_ca rfl ?_
  refine Eq.mp (congrArg (fun z => m_call L (d + 1) 166 [.int z] _ _) (h5 4 (by omega)).symm) ?_
  refine c_bitCount (hb 4) ?_
  refine v_go rfl ?_
  refine v_bF rfl (by decide) ?_
  refine v_go rfl ?_
  refine v_sd rfl (vp_in_nI (n := 5) (by omega) (by omega)) ?_
  refine v_ca rfl ?_
  refine Eq.mp (congrArg (fun z => m_call L (d + 1) 166 [.int z] _ _) (h5 5 (by omega)).symm) ?_
  refine c_bitCount (hb 5) ?_
  refine v_go rfl ?_
  refine v_bT rfl (by decide) ?_
  refine v_go rfl ?_
  refine v_rt rfl trivial ?_
  rw [← nI_add, ← nI_add, ← nI_add, ← nI_add, ← nI_add] at h
  rw [show (0 : Int32) + nI (popN 6 (b_sum (fun f => S.2.2.2 f 0) 4)) = nI (popN 6 (b_sum (fun f => S.2.2.2 f 0) 4)) from Int32.zero_add _]
  exact h
/-- wet of all fields -/
def p_all (S : SH) : Nat := p_wet S 0 S.1 + p_wet S 1 S.1 + p_wet S 2 S.1 + p_wet S 3 S.1
theorem c_wetAll {L d : Nat} {S : SH} {D : m_D} {Q : m_K} (hF : ∀ f, f < 4 → D 20 f = nI (p_wet S f S.1)) (h : Q (some (.int (nI (p_all S)))) D) : m_call L (d + 1) 4 [.ref 15] D Q := by
  refine c_wetOfAll ?_
  rw [hF 0 (by omega), hF 1 (by omega), hF 2 (by omega), hF 3 (by omega), Int32.zero_add, nI_add, nI_add, nI_add]
  exact h
theorem c_wetAllM {L d : Nat} {S : SH} {D : m_D} {Q : m_K} (hF : ∀ f, f < 4 → D 50 f = nI (p_wet S f S.1)) (h : Q (some (.int (nI (p_all S)))) D) : m_call L (d + 1) 114 [.ref 34] D Q := by
  unfold p_all at h
  rw [← nI_add, ← nI_add, ← nI_add, ← hF 0 (by omega), ← hF 1 (by omega), ← hF 2 (by omega), ← hF 3 (by omega)] at h
  refine v_in (tb' := t_X5_wetOfAll) (rk' := 1) rfl rfl rfl ?_
  refine v_go rfl (v_sd rfl (vp_in_nI (n := 0) (by omega) (by omega)) ?_)
  refine v_go rfl (v_sd rfl (vp_in_nI (n := 1) (by omega) (by omega)) ?_)
  refine v_go rfl (v_sd rfl (vp_in_nI (n := 2) (by omega) (by omega)) ?_)
  refine v_go rfl (v_sd rfl (vp_in_nI (n := 3) (by omega) (by omega)) ?_)
  refine v_go rfl ?_
  exact v_rt rfl trivial h
def sp_many (S : SH) (r : Nat) (y : Int32) : Int32 := if y = 0 then nI S.1 else if y = 1 then nI S.2.1 else if y = 2 then nI (p_cg S) else if y = 3 then nI (p_all S) else if y = 4 then nI r else -2
theorem s_many (y : Int32) : StepI 79 165 [.int y] := by
  intro L Z hz
  obtain ⟨S, ⟨r, rf, rw0⟩, sh, tr, fl⟩ := Z
  have hoS : okS S := hz.1
  refine ⟨sp_many S r y, (S, (r, rf, rw0), sh, tr, fl), hz, fun D Q hI h => ?_, fun D Q hI h => ?_⟩
  · have r1 : D 1 0 = nI S.1 := hI.1.1
    have r2 : D 1 1 = nI S.2.1 := hI.1.2.1
    have r7 : D 0 7 = nI r := hI.2.1
    unfold sp_many at h
    refine v_in (tb' := t_X4_many) (rk' := 1) rfl rfl rfl ?_
    refine v_go rfl ?_
    refine v_sw rfl ?_
    refine br_c (fun e => ?_) (fun e0 => ?_)
    · rw [if_pos e] at h
      refine v_go rfl ?_
      rw [r1]
      exact v_rt rfl trivial (h D (frC.refl _) hI)
    · rw [if_neg e0] at h
      refine br_c (fun e => ?_) (fun e1 => ?_)
      · rw [if_pos e] at h
        refine v_go rfl ?_
        rw [r2]
        exact v_rt rfl trivial (h D (frC.refl _) hI)
      · rw [if_neg e1] at h
        refine br_c (fun e => ?_) (fun e2 => ?_)
        · rw [if_pos e] at h
          refine v_go rfl ?_
          refine v_ca rfl ?_
          refine c_coughCount hI.1 ?_
          exact v_rt rfl trivial (h D (frC.refl _) hI)
        · rw [if_neg e2] at h
          refine br_c (fun e => ?_) (fun e3 => ?_)
          · rw [if_pos e] at h
            refine v_go rfl ?_
            refine v_ca rfl ?_
            refine c_workOut (Or.inl rfl) hI.1 hoS (fun D2 hf2 hF => ?_)
            refine v_go rfl ?_
            refine v_ca rfl ?_
            refine c_wetAll hF.2.2.1 ?_
            exact v_rt rfl trivial (h D2 (frC_F hf2) (InvC_F hI hf2))
          · rw [if_neg e3] at h
            refine br_c (fun e => ?_) (fun e4 => ?_)
            · rw [if_pos e] at h
              refine v_go rfl ?_
              rw [r7]
              exact v_rt rfl trivial (h D (frC.refl _) hI)
            · rw [if_neg e4] at h
              exact v_go rfl (v_rt rfl trivial (h D (frC.refl _) hI))
  · have h5 := hI.1.2.2.2.2
    have hb : ∀ f, b_sum (fun t => S.2.2.2 f t) 6 < 64 := fun f => b_sum_lt _ 6
    refine v_in (tb' := t_X5_many) (rk' := 1) rfl rfl rfl ?_
    refine v_go rfl ?_
    refine v_bF rfl (by decide) ?_
    refine v_go rfl ?_
    refine v_sd rfl (vp_in_nI (n := 0) (by omega) (by omega)) ?_
    refine v_ca rfl ?_
    refine Eq.mp (congrArg (fun z => m_call L 7 92 [.int z] _ _) (h5 0 (by omega)).symm) ?_
    refine c_bits (hb 0) ?_
    refine v_go rfl ?_
    refine v_bF rfl (by decide) ?_
    refine v_go rfl ?_
    refine v_sd rfl (vp_in_nI (n := 1) (by omega) (by omega)) ?_
    refine v_ca rfl ?_
    refine Eq.mp (congrArg (fun z => m_call L 7 92 [.int z] _ _) (h5 1 (by omega)).symm) ?_
    refine c_bits (hb 1) ?_
    refine v_go rfl ?_
    refine v_bF rfl (by decide) ?_
    refine v_go rfl ?_
    refine v_sd rfl (vp_in_nI (n := 2) (by omega) (by omega)) ?_
    refine v_ca rfl ?_
    refine Eq.mp (congrArg (fun z => m_call L 7 92 [.int z] _ _) (h5 2 (by omega)).symm) ?_
    refine c_bits (hb 2) ?_
    refine v_go rfl ?_
    refine v_bF rfl (by decide) ?_
    refine v_go rfl ?_
    refine v_sd rfl (vp_in_nI (n := 3) (by omega) (by omega)) ?_
    refine v_ca rfl ?_
    refine Eq.mp (congrArg (fun z => m_call L 7 92 [.int z] _ _) (h5 3 (by omega)).symm) ?_
    refine c_bits (hb 3) ?_
    refine v_go rfl ?_
    refine v_bT rfl (by decide) ?_
    refine v_go rfl ?_
    have ecg : (0 : Int32) + nI (popN 6 (b_sum (fun t => S.2.2.2 0 t) 6)) + nI (popN 6 (b_sum (fun t => S.2.2.2 1 t) 6)) + nI (popN 6 (b_sum (fun t => S.2.2.2 2 t) 6)) + nI (popN 6 (b_sum (fun t => S.2.2.2 3 t) 6)) = nI (p_cg S) := by
      rw [Int32.zero_add, nI_add, nI_add, nI_add, p_cg_eq]
    refine v_ca rfl ?_
    refine c_rains hI.1 hoS (fun D2 hf2 hF => ?_)
    have hI2 := InvM_R hI hf2
    have h := h D2 (frM_R hf2) hI2
    have r1 : D2 34 1 = nI S.1 := hI2.1.1
    have r2 : D2 34 2 = nI S.2.1 := hI2.1.2.1
    have r7 : D2 34 26 = nI r := hI2.2.1
    unfold sp_many at h
    refine v_go rfl ?_
    refine v_sw rfl ?_
    refine br_c (fun e => ?_) (fun e0 => ?_)
    · rw [if_pos e] at h
      refine v_go rfl ?_
      rw [r1]
      exact v_rt rfl trivial h
    · rw [if_neg e0] at h
      refine br_c (fun e => ?_) (fun e1 => ?_)
      · rw [if_pos e] at h
        refine v_go rfl ?_
        rw [r2]
        exact v_rt rfl trivial h
      · rw [if_neg e1] at h
        refine br_c (fun e => ?_) (fun e2 => ?_)
        · rw [if_pos e, ← ecg] at h
          exact v_go rfl (v_rt rfl trivial h)
        · rw [if_neg e2] at h
          refine br_c (fun e => ?_) (fun e3 => ?_)
          · rw [if_pos e] at h
            refine v_go rfl ?_
            refine v_ca rfl ?_
            refine c_wetAllM hF.2.2.1 ?_
            exact v_rt rfl trivial h
          · rw [if_neg e3] at h
            refine br_c (fun e => ?_) (fun e4 => ?_)
            · rw [if_pos e] at h
              refine v_go rfl ?_
              rw [r7]
              exact v_rt rfl trivial h
            · rw [if_neg e4] at h
              exact v_go rfl (v_rt rfl trivial h)
