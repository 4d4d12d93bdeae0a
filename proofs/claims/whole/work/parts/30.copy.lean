/-! ===== copy ===== -/
/-- so many cells from there on, that there are -/
def rng (i : Int32) (w : Int) (n : Nat) : Prop := 0 ≤ i.toInt ∧ 0 ≤ w ∧ i.toInt + w ≤ n
theorem c_hasCells {L d k n : Nat} {i w : Int32} {D : m_D} {Q : m_K} (hk : k < 4) (hn : D (24 + 2 * k) 3 = nI n) (h60 : n ≤ 60) (h1 : rng i w.toInt n → Q (some (.int 1)) D) (h0 : ¬ rng i w.toInt n → Q (some (.int 0)) D) : m_call L (d + 1) 9 [.ref (24 + 2 * k), .int i, .int w] D Q := by
  have hk4 : k = 0 ∨ k = 1 ∨ k = 2 ∨ k = 3 := by omega
  have lt0 : ∀ z : Int32, z < 0 ↔ z.toInt < 0 := fun z => by rw [Int32.lt_iff_toInt_lt, Int32.toInt_zero]
  have gtn : ∀ z : Int32, nI n < z ↔ (n : Int) < z.toInt := fun z => by rw [Int32.lt_iff_toInt_lt, nI_toInt (by omega)]
  have sub : 0 ≤ i.toInt → i.toInt ≤ n → (nI n - i < w ↔ (n : Int) - i.toInt < w.toInt) := fun a b => by
    rw [Int32.lt_iff_toInt_lt, Int32.toInt_sub, nI_toInt (by omega), Int.bmod_eq_of_le (by omega) (by omega)]
  rw [← hn] at gtn sub
  rcases hk4 with rfl | rfl | rfl | rfl
  all_goals
    refine v_in (tb' := t_X1_hasCells) (rk' := 2) rfl rfl rfl ?_
    refine v_go rfl ?_
    refine v_br rfl (fun z1 => ?_) (fun z1 => ?_)
    · exact v_go rfl (v_rt rfl (Or.inl rfl) (h0 (fun y => absurd ((lt0 i).mp z1) (by have := y.1; omega))))
    · have z1 : ¬ i.toInt < 0 := fun y => z1 ((lt0 i).mpr y)
      refine v_go rfl ?_
      refine v_br rfl (fun z2 => ?_) (fun z2 => ?_)
      · have z2 := (gtn i).mp z2
        exact v_go rfl (v_rt rfl (Or.inl rfl) (h0 (fun y => by have := y.2; omega)))
      · have z2 : ¬ (n : Int) < i.toInt := fun y => z2 ((gtn i).mpr y)
        refine v_go rfl ?_
        refine v_br rfl (fun z3 => ?_) (fun z3 => ?_)
        · have z3 := (lt0 w).mp z3
          exact v_go rfl (v_rt rfl (Or.inl rfl) (h0 (fun y => by have := y.2; omega)))
        · have z3 : ¬ w.toInt < 0 := fun y => z3 ((lt0 w).mpr y)
          refine v_go rfl ?_
          have sub := sub (by omega) (by omega)
          refine v_br rfl (fun z4 => ?_) (fun z4 => ?_)
          · have z4 := sub.mp z4
            exact v_go rfl (v_rt rfl (Or.inl rfl) (h0 (fun y => by have := y.2; omega)))
          · have z4 : ¬ (n : Int) - i.toInt < w.toInt := fun y => z4 (sub.mpr y)
            exact v_go rfl (v_rt rfl (Or.inr rfl) (h1 ⟨by omega, by omega, by omega⟩))
theorem c_isBeyond {L d n : Nat} {i : Int32} {w : Int64} {D : m_D} {Q : m_K} (h60 : n ≤ 60) (hw : w.toInt < 2 ^ 40 ∧ -2 ^ 40 < w.toInt) (h0 : rng i w.toInt n → Q (some (.int 0)) D) (h1 : ¬ rng i w.toInt n → Q (some (.int 1)) D) : m_call L (d + 1) 157 [.int i, .long w, .int (nI n)] D Q := by
  have lt0 : ∀ z : Int32, z < 0 ↔ z.toInt < 0 := fun z => by rw [Int32.lt_iff_toInt_lt, Int32.toInt_zero]
  have wl : w < 0 ↔ w.toInt < 0 := by
    rw [Int64.lt_iff_toInt_lt]
    rfl
  have hi1 := Int32.toInt_lt i
  have hi2 := Int32.le_toInt i
  have add : (i.toInt64 + w).toInt = i.toInt + w.toInt := by
    rw [Int64.toInt_add, Int32.toInt_toInt64]
    exact Int.bmod_eq_of_le (by omega) (by omega)
  have en : ((nI n).toInt64).toInt = (n : Int) := by rw [nI_l (by omega), lN_toInt (by omega)]
  refine v_in (tb' := t_X5_isBeyond) (rk' := 2) rfl rfl rfl ?_
  refine v_go rfl ?_
  refine v_br rfl (fun z1 => ?_) (fun z1 => ?_)
  · exact v_go rfl (v_rt rfl (Or.inr rfl) (h1 (fun y => absurd ((lt0 i).mp z1) (by have := y.1; omega))))
  · have z1 : ¬ i.toInt < 0 := fun y => z1 ((lt0 i).mpr y)
    refine v_go rfl ?_
    refine v_br rfl (fun z2 => ?_) (fun z2 => ?_)
    · have z2 := wl.mp (lg_lt.mp z2)
      exact v_go rfl (v_rt rfl (Or.inr rfl) (h1 (fun y => by have := y.2; omega)))
    · have z2 : ¬ w.toInt < 0 := fun y => z2 (lg_lt.mpr (wl.mpr y))
      refine v_go rfl ?_
      refine v_br rfl (fun z3 => ?_) (fun z3 => ?_)
      · have z3 : ¬ (nI n).toInt64 < i.toInt64 + w := fun y => absurd (lg_gt.mpr y) (Int32.not_lt.mpr z3)
        rw [Int64.lt_iff_toInt_lt, add, en] at z3
        exact v_go rfl (v_rt rfl (Or.inl rfl) (h0 ⟨by omega, by omega, by omega⟩))
      · have z3 : (nI n).toInt64 < i.toInt64 + w := lg_gt.mp (Int32.not_le.mp z3)
        rw [Int64.lt_iff_toInt_lt, add, en] at z3
        exact v_go rfl (v_rt rfl (Or.inr rfl) (h1 (fun y => by have := y.2; omega)))
theorem i64_small (w : Int32) : (w.toInt64).toInt < 2 ^ 40 ∧ -2 ^ 40 < (w.toInt64).toInt := by
  rw [Int32.toInt_toInt64]
  have hi1 := Int32.toInt_lt w
  have hi2 := Int32.le_toInt w
  omega
theorem rng_of {i w : Int32} {n : Nat} (h : rng i w.toInt n) (hn : n < 2 ^ 31) : ∃ a b : Nat, i = nI a ∧ w = nI b ∧ a + b ≤ n := by
  obtain ⟨h1, h2, h3⟩ := h
  have f : ∀ z : Int32, 0 ≤ z.toInt → z = nI z.toInt.toNat := fun z hz => by
    apply Int32.toInt_inj.mp
    have := Int32.toInt_lt z
    rw [nI_toInt (by omega)]
    omega
  exact ⟨i.toInt.toNat, w.toInt.toNat, f i h1, f w h2, by omega⟩
set_option maxHeartbeats 4000000 in
theorem s_copy (x y u w v : Int32) : StepI 69 158 [.int x, .int y, .int u, .int w, .int v] := by
  intro L Z hz
  obtain ⟨S, rd, sh, tr, fl⟩ := Z
  by_cases hxu : vp_in x 4 ∧ vp_in u 4
  · obtain ⟨hx, hu⟩ := hxu
    obtain ⟨k, hk, rfl⟩ := vp_in_of hx (by omega)
    obtain ⟨o, ho, rfl⟩ := vp_in_of hu (by omega)
    have hck : (nI k).toNatClampNeg = k := nI_clamp (by omega)
    have hco : (nI o).toNatClampNeg = o := nI_clamp (by omega)
    have hk4 : k = 0 ∨ k = 1 ∨ k = 2 ∨ k = 3 := by omega
    have ho4 : o = 0 ∨ o = 1 ∨ o = 2 ∨ o = 3 := by omega
    have hk0 := hk
    have ho0 := ho
    by_cases hnone : sh k = none ∨ sh o = none
    · refine ⟨-11, (S, rd, sh, tr, 1), hz, fun D Q hI h => ?_, fun D Q hI h => ?_⟩
      · have hsk : shC k (m_up D 0 9 0) (sh k) := (InvC_fl 0 hI).2.2.2.1 k hk
        have hso : shC o (m_up D 0 9 0) (sh o) := (InvC_fl 0 hI).2.2.2.1 o ho
        have h := h (m_up D 0 9 1) ((frC.refl _).up (by omega)) (InvC_fl _ hI)
        have hor : m_up D 0 9 0 (24 + 2 * k) 1 = 0 ∨ (¬ m_up D 0 9 0 (24 + 2 * k) 1 = 0 ∧ m_up D 0 9 0 (24 + 2 * o) 1 = 0) := by
          cases e1 : sh k with
          | none =>
            rw [e1] at hsk
            exact Or.inl hsk
          | some s1 =>
            rw [e1] at hsk
            rcases hnone with e | e
            · rw [e1] at e
              cases e
            · rw [e] at hso
              exact Or.inr ⟨by rw [hsk.1]; decide, hso⟩
        refine v_in (tb' := t_X4_copy) (rk' := 1) rfl rfl rfl ?_
        refine v_go rfl ?_
        refine v_ca rfl ?_
        refine c_isSheet (fun _ => ?_) (fun z => absurd hx z)
        refine v_go rfl ?_
        refine v_bF rfl (by decide) ?_
        refine v_go rfl ?_
        refine v_ca rfl ?_
        refine c_isSheet (fun _ => ?_) (fun z => absurd hu z)
        refine v_go rfl ?_
        refine v_bT rfl (by decide) ?_
        refine v_go rfl ?_
        refine v_al rfl hx (fun q hq => ?_)
        have hq := al_q hk hq
        subst hq
        refine v_go rfl ?_
        refine v_al rfl hu (fun q hq => ?_)
        have hq := al_q ho hq
        subst hq
        rcases hor with hz1 | ⟨hz1, hz2⟩
        · rcases hk4 with rfl | rfl | rfl | rfl
          all_goals
            refine v_go rfl ?_
            refine v_bT rfl hz1 ?_
            refine v_go rfl ?_
            refine v_ca rfl ?_
            refine c_faulted ?_
            rw [m_up_ii]
            exact v_rt rfl trivial h
        · rcases hk4 with rfl | rfl | rfl | rfl
          all_goals
            refine v_go rfl ?_
            refine v_bF rfl hz1 ?_
            rcases ho4 with rfl | rfl | rfl | rfl
            all_goals
              refine v_go rfl ?_
              refine v_bF rfl (fun z => z hz2) ?_
              refine v_go rfl ?_
              refine v_ca rfl ?_
              refine c_faulted ?_
              rw [m_up_ii]
              exact v_rt rfl trivial h
      · have hsk : shM k D (sh k) := hI.2.2.2.1 k hk
        have hso : shM o D (sh o) := hI.2.2.2.1 o ho
        have hor : D 56 k < 0 ∨ (¬ D 56 k < 0 ∧ ¬ 0 ≤ D 56 o) := by
          cases e1 : sh k with
          | none =>
            rw [e1] at hsk
            have hsk : D 56 k = -1 := hsk
            rw [hsk]
            exact Or.inl (by decide)
          | some s1 =>
            obtain ⟨la, n, f⟩ := s1
            have hn60 : n ≤ 60 := (hz.2.2.2.2 k hk la n f e1).2
            rw [e1] at hsk
            rcases hnone with e | e
            · rw [e1] at e
              cases e
            · rw [e] at hso
              have hso : D 56 o = -1 := hso
              rw [hsk.1, hso]
              exact Or.inr ⟨nI_pos (by omega), by decide⟩
        refine v_in (tb' := t_X5_copy) (rk' := 1) rfl rfl rfl ?_
        refine v_go rfl ?_
        refine v_ca rfl ?_
        refine c_noSheet (fun _ => ?_) (fun z => absurd hx z)
        refine v_go rfl ?_
        refine v_bF rfl (by decide) ?_
        refine v_go rfl ?_
        refine v_ca rfl ?_
        refine c_noSheet (fun _ => ?_) (fun z => absurd hu z)
        refine v_go rfl ?_
        refine v_bT rfl (by decide) ?_
        refine v_go rfl ?_
        refine v_sd rfl hx ?_
        rw [hck]
        rcases hor with hz1 | ⟨hz1, hz2⟩
        · refine v_bT rfl hz1 ?_
          refine v_go rfl ?_
          refine v_ca rfl ?_
          refine c_failed ?_
          exact v_rt rfl trivial (h _ ((frM.refl _).up (by omega)) (InvM_fl _ hI))
        · refine v_bF rfl hz1 ?_
          refine v_go rfl ?_
          refine v_sd rfl hu ?_
          rw [hco]
          refine v_bF rfl hz2 ?_
          refine v_go rfl ?_
          refine v_ca rfl ?_
          refine c_failed ?_
          exact v_rt rfl trivial (h _ ((frM.refl _).up (by omega)) (InvM_fl _ hI))
    · cases e1 : sh k with
      | none => exact absurd (Or.inl e1) hnone
      | some s1 =>
        cases e2 : sh o with
        | none => exact absurd (Or.inr e2) hnone
        | some s2 =>
          obtain ⟨la, n, f⟩ := s1
          obtain ⟨lb, m, g⟩ := s2
          obtain ⟨hla, hn60⟩ := hz.2.2.2.2 k hk la n f e1
          obtain ⟨hlb, hm60⟩ := hz.2.2.2.2 o ho lb m g e2
          by_cases hll : la = lb
          · subst hll
            by_cases hr : rng y v.toInt n ∧ rng w v.toInt m
            · obtain ⟨hr1, hr2⟩ := hr
              obtain ⟨i, c, rfl, rfl, hic⟩ := rng_of hr1 (by omega)
              obtain ⟨j, c', rfl, ec, hjc⟩ := rng_of hr2 (by omega)
              have ec : c = c' := by
                have h2 : c' < 2 ^ 31 := by omega
                exact (nI_eq (by omega) h2).mp ec
              subst ec
              have hci : (nI i).toNatClampNeg = i := nI_clamp (by omega)
              have hcj : (nI j).toNatClampNeg = j := nI_clamp (by omega)
              have hcc : (nI c).toNatClampNeg = c := nI_clamp (by omega)
              refine ⟨nI c, (S, rd, setH sh o (some (la, m, va_cpy f g i j c)), tr, 0), okZ_sh hz (fun a b c e => by cases e; omega), fun D Q hI h => ?_, fun D Q hI h => ?_⟩
              · have hI0 := InvC_fl 0 hI
                have hsk : shC k (m_up D 0 9 0) (sh k) := hI0.2.2.2.1 k hk
                have hso : shC o (m_up D 0 9 0) (sh o) := hI0.2.2.2.1 o ho
                rw [e1] at hsk
                rw [e2] at hso
                obtain ⟨k1, k2, k3, k4⟩ := hsk
                obtain ⟨o1, o2, o3, o4⟩ := hso
                have h := h (m_cp (m_up D 0 9 0) (25 + 2 * k) (25 + 2 * o) i j c) (fun a ha => by rw [m_cp_ne (by omega), m_up_ne (by omega)]) (InvC_sh _ hI0 ho (fun a _ _ hc => m_cp_ne hc) ⟨by rw [m_cp_ne (by omega)]; exact o1, by rw [m_cp_ne (by omega)]; exact o2, by rw [m_cp_ne (by omega)]; exact o3, fun b hb => by
                  rw [m_cp_at]
                  unfold va_cpy
                  by_cases e : j ≤ b ∧ b < j + c
                  · rw [if_pos e, if_pos e]
                    exact k4 _ (by omega)
                  · rw [if_neg e, if_neg e]
                    exact o4 b hb⟩)
                have hne1 : ¬ m_up D 0 9 0 (24 + 2 * k) 1 = 0 := by rw [k1]; decide
                have hne2 : ¬ m_up D 0 9 0 (24 + 2 * o) 1 = 0 := by rw [o1]; decide
                have hlane : m_up D 0 9 0 (24 + 2 * k) 2 = m_up D 0 9 0 (24 + 2 * o) 2 := k2.trans o2.symm
                have hcond : ¬ nI i < 0 ∧ ¬ nI j < 0 ∧ ¬ nI c < 0 ∧ (nI i).toNatClampNeg + (nI c).toNatClampNeg ≤ 60 ∧ (nI j).toNatClampNeg + (nI c).toNatClampNeg ≤ 60 := by
                  rw [hci, hcj, hcc]
                  exact ⟨nI_pos (by omega), nI_pos (by omega), nI_pos (by omega), by omega, by omega⟩
                refine v_in (tb' := t_X4_copy) (rk' := 1) rfl rfl rfl ?_
                refine v_go rfl ?_
                refine v_ca rfl ?_
                refine c_isSheet (fun _ => ?_) (fun z => absurd hx z)
                refine v_go rfl ?_
                refine v_bF rfl (by decide) ?_
                refine v_go rfl ?_
                refine v_ca rfl ?_
                refine c_isSheet (fun _ => ?_) (fun z => absurd hu z)
                refine v_go rfl ?_
                refine v_bT rfl (by decide) ?_
                refine v_go rfl ?_
                refine v_al rfl hx (fun q hq => ?_)
                have hq := al_q hk hq
                subst hq
                refine v_go rfl ?_
                refine v_al rfl hu (fun q hq => ?_)
                have hq := al_q ho hq
                subst hq
                rcases hk4 with rfl | rfl | rfl | rfl
                all_goals
                  rcases ho4 with rfl | rfl | rfl | rfl
                  all_goals
                    refine v_go rfl ?_
                    refine v_bF rfl hne1 ?_
                    refine v_go rfl ?_
                    refine v_bT rfl hne2 ?_
                    refine v_go rfl ?_
                    refine v_bT rfl hlane ?_
                    refine v_go rfl ?_
                    refine v_ca rfl ?_
                    refine c_hasCells hk0 k3 hn60 (fun _ => ?_) (fun z => absurd hr1 z)
                    refine v_go rfl ?_
                    refine v_bF rfl (by decide) ?_
                    refine v_go rfl ?_
                    refine v_ca rfl ?_
                    refine c_hasCells ho0 o3 hm60 (fun _ => ?_) (fun z => absurd hr2 z)
                    refine v_go rfl ?_
                    refine v_bT rfl (by decide) ?_
                    refine v_go rfl ?_
                    refine v_sd rfl hcond ?_
                    rw [hci, hcj, hcc]
                    refine v_go rfl ?_
                    exact v_rt rfl trivial h
              · have hsk : shM k D (sh k) := hI.2.2.2.1 k hk
                have hso : shM o D (sh o) := hI.2.2.2.1 o ho
                rw [e1] at hsk
                rw [e2] at hso
                obtain ⟨k1, k2, k3⟩ := hsk
                obtain ⟨o1, o2, o3⟩ := hso
                have e60 : ∀ a b, (60 : Int32) * nI a + nI b = nI (60 * a + b) := fun a b => by rw [show (60 : Int32) = nI 60 from rfl, pk_mul, nI_add]
                have c64 : ((nI c).toInt64).toInt = (nI c).toInt := Int32.toInt_toInt64 _
                have kb : ∀ (m2 a : Nat) (D1 : m_D), a + m2 = c → m_fM [58, 59] [] D D1 → (∀ b, b < c → D1 59 b = f (i + b)) → (∀ b, D1 58 b = if 60 * o + j ≤ b ∧ b < 60 * o + j + a then f (i + (b - (60 * o + j))) else D 58 b) → m_V L 7 Q t_X5_copy 1 (144, [some (.ref 34), some (.int (nI k)), some (.int (nI i)), some (.int (nI o)), some (.int (nI j)), some (.int (nI c)), some (.int (nI a))], [], D1) := by
                  intro m2
                  induction m2 with
                  | zero =>
                    intro a D1 ha hf h59 h58
                    have ha : a = c := by omega
                    subst ha
                    refine v_go rfl ?_
                    refine v_bT rfl (Int32.le_refl _) ?_
                    refine v_go rfl ?_
                    refine v_ca rfl ?_
                    refine c_refused ?_
                    have ecell : ∀ q, q ≠ 58 → q ≠ 59 → q ≠ 34 → D1 q = D q := fun q h1 h2 h3 => hf.1 q (by simp [h1, h2]) h3
                    refine v_rt rfl trivial (h _ (fun q hq => ?_) (InvM_fl (fl := fl) 0 (InvM_sh _ hz hI ho (fun q hq => ecell q (by omega) (by omega) (by omega)) (fun q _ => hf.2 q (by simp)) (fun q hq hqo => ⟨by rw [ecell 56 (by omega) (by omega) (by omega)], by rw [ecell 57 (by omega) (by omega) (by omega)], fun b hb => ?_⟩) ⟨?_, ?_, fun b hb => ?_⟩)))
                    · rw [m_up_ne (by omega)]
                      exact ecell q (by omega) (by omega) (by omega)
                    · rw [h58, if_neg (by omega)]
                    · rw [ecell 56 (by omega) (by omega) (by omega)]
                      exact o1
                    · rw [ecell 57 (by omega) (by omega) (by omega)]
                      exact o2
                    · rw [h58]
                      unfold va_cpy
                      by_cases e : j ≤ b ∧ b < j + a
                      · rw [if_pos (by omega), if_pos e, show 60 * o + b - (60 * o + j) = b - j by omega]
                      · rw [if_neg (by omega), if_neg e]
                        exact o3 b hb
                  | succ m2 ih =>
                    intro a D1 ha hf h59 h58
                    have hia : vp_in (nI a) 60 := vp_in_nI (by omega) (by omega)
                    have hca : (nI a).toNatClampNeg = a := nI_clamp (by omega)
                    have hib : vp_in (nI (60 * o + j + a)) 240 := vp_in_nI (by omega) (by omega)
                    have hcb : (nI (60 * o + j + a)).toNatClampNeg = 60 * o + j + a := nI_clamp (by omega)
                    have ih := ih (a + 1) (m_up D1 58 (60 * o + j + a) (f (i + a))) (by omega) (hf.up (by simp) (by decide)) h59 (fun b => by
                      by_cases e : b = 60 * o + j + a
                      · rw [e, m_up_s, if_pos (by omega), show 60 * o + j + a - (60 * o + j) = a by omega]
                      · rw [m_up_n e, h58]
                        by_cases e3 : 60 * o + j ≤ b ∧ b < 60 * o + j + a
                        · rw [if_pos e3, if_pos (by omega)]
                        · rw [if_neg e3, if_neg (by omega)])
                    rw [← nI_1] at ih
                    refine v_go rfl ?_
                    refine v_bF rfl (nI_ge (by omega) (by omega)) ?_
                    refine v_go rfl ?_
                    rw [e60, nI_add]
                    refine v_sd rfl hia ?_
                    rw [hca, h59 a (by omega)]
                    refine v_sd rfl hib ?_
                    rw [hcb]
                    exact v_run 2 rfl ih
                have ka : ∀ (m2 a : Nat) (D1 : m_D), a + m2 = c → m_fM [59] [] D D1 → (∀ b, b < a → D1 59 b = f (i + b)) → m_V L 7 Q t_X5_copy 1 (107, [some (.ref 34), some (.int (nI k)), some (.int (nI i)), some (.int (nI o)), some (.int (nI j)), some (.int (nI c)), some (.int (nI a))], [], D1) := by
                  intro m2
                  induction m2 with
                  | zero =>
                    intro a D1 ha hf h59
                    have ha : a = c := by omega
                    subst ha
                    refine v_go rfl ?_
                    refine v_bT rfl (Int32.le_refl _) ?_
                    refine v_run 2 rfl (kb a 0 D1 (by omega) (hf.sub (by simp) (by simp)) h59 (fun b => ?_))
                    rw [if_neg (by omega), hf.1 58 (by simp) (by omega)]
                  | succ m2 ih =>
                    intro a D1 ha hf h59
                    have hia : vp_in (nI a) 60 := vp_in_nI (by omega) (by omega)
                    have hca : (nI a).toNatClampNeg = a := nI_clamp (by omega)
                    have hib : vp_in (nI (60 * k + i + a)) 240 := vp_in_nI (by omega) (by omega)
                    have hcb : (nI (60 * k + i + a)).toNatClampNeg = 60 * k + i + a := nI_clamp (by omega)
                    have e58 : D1 58 (60 * k + i + a) = f (i + a) := by
                      rw [hf.1 58 (by simp) (by omega), show 60 * k + i + a = 60 * k + (i + a) by omega]
                      exact k3 _ (by omega)
                    have ih := ih (a + 1) (m_up D1 59 a (f (i + a))) (by omega) (hf.up (by simp) (by decide)) (fun b hb => by
                      by_cases e : b = a
                      · rw [e, m_up_s]
                      · rw [m_up_n e]
                        exact h59 b (by omega))
                    rw [← nI_1] at ih
                    refine v_go rfl ?_
                    refine v_bF rfl (nI_ge (by omega) (by omega)) ?_
                    refine v_go rfl ?_
                    rw [e60, nI_add]
                    refine v_sd rfl hib ?_
                    rw [hcb, e58]
                    refine v_sd rfl hia ?_
                    rw [hca]
                    exact v_run 2 rfl ih
                refine v_in (tb' := t_X5_copy) (rk' := 1) rfl rfl rfl ?_
                refine v_go rfl ?_
                refine v_ca rfl ?_
                refine c_noSheet (fun _ => ?_) (fun z => absurd hx z)
                refine v_go rfl ?_
                refine v_bF rfl (by decide) ?_
                refine v_go rfl ?_
                refine v_ca rfl ?_
                refine c_noSheet (fun _ => ?_) (fun z => absurd hu z)
                refine v_go rfl ?_
                refine v_bT rfl (by decide) ?_
                refine v_go rfl ?_
                refine v_sd rfl hx ?_
                rw [hck, k1]
                refine v_bF rfl (nI_pos (by omega)) ?_
                refine v_go rfl ?_
                refine v_sd rfl hu ?_
                rw [hco, o1]
                refine v_bT rfl (nI_pos' (by omega)) ?_
                refine v_go rfl ?_
                refine v_sd rfl hx ?_
                rw [hck, k2]
                refine v_go rfl ?_
                refine v_sd rfl hu ?_
                rw [hco, o2]
                refine v_bT rfl rfl ?_
                refine v_go rfl ?_
                refine v_sd rfl hx ?_
                rw [hck, k1]
                refine v_ca rfl ?_
                refine c_isBeyond hn60 (i64_small _) (fun _ => ?_) (fun z => absurd (by rw [c64]; exact hr1) z)
                refine v_go rfl ?_
                refine v_bF rfl (by decide) ?_
                refine v_go rfl ?_
                refine v_sd rfl hu ?_
                rw [hco, o1]
                refine v_ca rfl ?_
                refine c_isBeyond hm60 (i64_small _) (fun _ => ?_) (fun z => absurd (by rw [c64]; exact hr2) z)
                refine v_go rfl ?_
                refine v_bT rfl (by decide) ?_
                exact v_run 2 rfl (ka c 0 D (by omega) (m_fM.refl _ _ _) (fun b hb => absurd hb (by omega)))
            · refine ⟨-13, (S, rd, sh, tr, 3), hz, fun D Q hI h => ?_, fun D Q hI h => ?_⟩
              · have hI0 := InvC_fl 0 hI
                have hsk : shC k (m_up D 0 9 0) (sh k) := hI0.2.2.2.1 k hk
                have hso : shC o (m_up D 0 9 0) (sh o) := hI0.2.2.2.1 o ho
                rw [e1] at hsk
                rw [e2] at hso
                obtain ⟨k1, k2, k3, k4⟩ := hsk
                obtain ⟨o1, o2, o3, o4⟩ := hso
                have h := h (m_up D 0 9 3) ((frC.refl _).up (by omega)) (InvC_fl _ hI)
                have hne1 : ¬ m_up D 0 9 0 (24 + 2 * k) 1 = 0 := by rw [k1]; decide
                have hne2 : ¬ m_up D 0 9 0 (24 + 2 * o) 1 = 0 := by rw [o1]; decide
                have hlane : m_up D 0 9 0 (24 + 2 * k) 2 = m_up D 0 9 0 (24 + 2 * o) 2 := k2.trans o2.symm
                refine v_in (tb' := t_X4_copy) (rk' := 1) rfl rfl rfl ?_
                refine v_go rfl ?_
                refine v_ca rfl ?_
                refine c_isSheet (fun _ => ?_) (fun z => absurd hx z)
                refine v_go rfl ?_
                refine v_bF rfl (by decide) ?_
                refine v_go rfl ?_
                refine v_ca rfl ?_
                refine c_isSheet (fun _ => ?_) (fun z => absurd hu z)
                refine v_go rfl ?_
                refine v_bT rfl (by decide) ?_
                refine v_go rfl ?_
                refine v_al rfl hx (fun q hq => ?_)
                have hq := al_q hk hq
                subst hq
                refine v_go rfl ?_
                refine v_al rfl hu (fun q hq => ?_)
                have hq := al_q ho hq
                subst hq
                rcases hk4 with rfl | rfl | rfl | rfl
                all_goals
                  rcases ho4 with rfl | rfl | rfl | rfl
                  all_goals
                    refine v_go rfl ?_
                    refine v_bF rfl hne1 ?_
                    refine v_go rfl ?_
                    refine v_bT rfl hne2 ?_
                    refine v_go rfl ?_
                    refine v_bT rfl hlane ?_
                    refine v_go rfl ?_
                    refine v_ca rfl ?_
                    refine c_hasCells hk0 k3 hn60 (fun hr1 => ?_) (fun _ => ?_)
                    · refine v_go rfl ?_
                      refine v_bF rfl (by decide) ?_
                      refine v_go rfl ?_
                      refine v_ca rfl ?_
                      refine c_hasCells ho0 o3 hm60 (fun hr2 => absurd ⟨hr1, hr2⟩ hr) (fun _ => ?_)
                      refine v_go rfl ?_
                      refine v_bF rfl (by decide) ?_
                      refine v_go rfl ?_
                      refine v_ca rfl ?_
                      refine c_faulted ?_
                      rw [m_up_ii]
                      exact v_rt rfl trivial h
                    · refine v_go rfl ?_
                      refine v_bT rfl (by decide) ?_
                      refine v_go rfl ?_
                      refine v_ca rfl ?_
                      refine c_faulted ?_
                      rw [m_up_ii]
                      exact v_rt rfl trivial h
              · have hsk : shM k D (sh k) := hI.2.2.2.1 k hk
                have hso : shM o D (sh o) := hI.2.2.2.1 o ho
                rw [e1] at hsk
                rw [e2] at hso
                obtain ⟨k1, k2, k3⟩ := hsk
                obtain ⟨o1, o2, o3⟩ := hso
                have c64 : (v.toInt64).toInt = v.toInt := Int32.toInt_toInt64 _
                refine v_in (tb' := t_X5_copy) (rk' := 1) rfl rfl rfl ?_
                refine v_go rfl ?_
                refine v_ca rfl ?_
                refine c_noSheet (fun _ => ?_) (fun z => absurd hx z)
                refine v_go rfl ?_
                refine v_bF rfl (by decide) ?_
                refine v_go rfl ?_
                refine v_ca rfl ?_
                refine c_noSheet (fun _ => ?_) (fun z => absurd hu z)
                refine v_go rfl ?_
                refine v_bT rfl (by decide) ?_
                refine v_go rfl ?_
                refine v_sd rfl hx ?_
                rw [hck, k1]
                refine v_bF rfl (nI_pos (by omega)) ?_
                refine v_go rfl ?_
                refine v_sd rfl hu ?_
                rw [hco, o1]
                refine v_bT rfl (nI_pos' (by omega)) ?_
                refine v_go rfl ?_
                refine v_sd rfl hx ?_
                rw [hck, k2]
                refine v_go rfl ?_
                refine v_sd rfl hu ?_
                rw [hco, o2]
                refine v_bT rfl rfl ?_
                refine v_go rfl ?_
                refine v_sd rfl hx ?_
                rw [hck, k1]
                refine v_ca rfl ?_
                refine c_isBeyond hn60 (i64_small _) (fun hr1 => ?_) (fun _ => ?_)
                · rw [c64] at hr1
                  refine v_go rfl ?_
                  refine v_bF rfl (by decide) ?_
                  refine v_go rfl ?_
                  refine v_sd rfl hu ?_
                  rw [hco, o1]
                  refine v_ca rfl ?_
                  refine c_isBeyond hm60 (i64_small _) (fun hr2 => absurd ⟨hr1, by rw [c64] at hr2; exact hr2⟩ hr) (fun _ => ?_)
                  refine v_go rfl ?_
                  refine v_bF rfl (by decide) ?_
                  refine v_go rfl ?_
                  refine v_ca rfl ?_
                  refine c_failed ?_
                  exact v_rt rfl trivial (h _ ((frM.refl _).up (by omega)) (InvM_fl _ hI))
                · refine v_go rfl ?_
                  refine v_bT rfl (by decide) ?_
                  refine v_go rfl ?_
                  refine v_ca rfl ?_
                  refine c_failed ?_
                  exact v_rt rfl trivial (h _ ((frM.refl _).up (by omega)) (InvM_fl _ hI))
          · have hne : ¬ nI la = nI lb := fun z => hll ((nI_eq (by omega) (by omega)).mp z)
            refine ⟨-12, (S, rd, sh, tr, 2), hz, fun D Q hI h => ?_, fun D Q hI h => ?_⟩
            · have hI0 := InvC_fl 0 hI
              have hsk : shC k (m_up D 0 9 0) (sh k) := hI0.2.2.2.1 k hk
              have hso : shC o (m_up D 0 9 0) (sh o) := hI0.2.2.2.1 o ho
              rw [e1] at hsk
              rw [e2] at hso
              obtain ⟨k1, k2, k3, k4⟩ := hsk
              obtain ⟨o1, o2, o3, o4⟩ := hso
              have h := h (m_up D 0 9 2) ((frC.refl _).up (by omega)) (InvC_fl _ hI)
              have hne1 : ¬ m_up D 0 9 0 (24 + 2 * k) 1 = 0 := by rw [k1]; decide
              have hne2 : ¬ m_up D 0 9 0 (24 + 2 * o) 1 = 0 := by rw [o1]; decide
              have hlane : ¬ m_up D 0 9 0 (24 + 2 * k) 2 = m_up D 0 9 0 (24 + 2 * o) 2 := by rw [k2, o2]; exact hne
              refine v_in (tb' := t_X4_copy) (rk' := 1) rfl rfl rfl ?_
              refine v_go rfl ?_
              refine v_ca rfl ?_
              refine c_isSheet (fun _ => ?_) (fun z => absurd hx z)
              refine v_go rfl ?_
              refine v_bF rfl (by decide) ?_
              refine v_go rfl ?_
              refine v_ca rfl ?_
              refine c_isSheet (fun _ => ?_) (fun z => absurd hu z)
              refine v_go rfl ?_
              refine v_bT rfl (by decide) ?_
              refine v_go rfl ?_
              refine v_al rfl hx (fun q hq => ?_)
              have hq := al_q hk hq
              subst hq
              refine v_go rfl ?_
              refine v_al rfl hu (fun q hq => ?_)
              have hq := al_q ho hq
              subst hq
              rcases hk4 with rfl | rfl | rfl | rfl
              all_goals
                rcases ho4 with rfl | rfl | rfl | rfl
                all_goals
                  refine v_go rfl ?_
                  refine v_bF rfl hne1 ?_
                  refine v_go rfl ?_
                  refine v_bT rfl hne2 ?_
                  refine v_go rfl ?_
                  refine v_bF rfl hlane ?_
                  refine v_go rfl ?_
                  refine v_ca rfl ?_
                  refine c_faulted ?_
                  rw [m_up_ii]
                  exact v_rt rfl trivial h
            · have hsk : shM k D (sh k) := hI.2.2.2.1 k hk
              have hso : shM o D (sh o) := hI.2.2.2.1 o ho
              rw [e1] at hsk
              rw [e2] at hso
              obtain ⟨k1, k2, k3⟩ := hsk
              obtain ⟨o1, o2, o3⟩ := hso
              refine v_in (tb' := t_X5_copy) (rk' := 1) rfl rfl rfl ?_
              refine v_go rfl ?_
              refine v_ca rfl ?_
              refine c_noSheet (fun _ => ?_) (fun z => absurd hx z)
              refine v_go rfl ?_
              refine v_bF rfl (by decide) ?_
              refine v_go rfl ?_
              refine v_ca rfl ?_
              refine c_noSheet (fun _ => ?_) (fun z => absurd hu z)
              refine v_go rfl ?_
              refine v_bT rfl (by decide) ?_
              refine v_go rfl ?_
              refine v_sd rfl hx ?_
              rw [hck, k1]
              refine v_bF rfl (nI_pos (by omega)) ?_
              refine v_go rfl ?_
              refine v_sd rfl hu ?_
              rw [hco, o1]
              refine v_bT rfl (nI_pos' (by omega)) ?_
              refine v_go rfl ?_
              refine v_sd rfl hx ?_
              rw [hck, k2]
              refine v_go rfl ?_
              refine v_sd rfl hu ?_
              rw [hco, o2]
              refine v_bF rfl hne ?_
              refine v_go rfl ?_
              refine v_ca rfl ?_
              refine c_failed ?_
              exact v_rt rfl trivial (h _ ((frM.refl _).up (by omega)) (InvM_fl _ hI))
  · refine ⟨-1, (S, rd, sh, tr, 0), hz, fun D Q hI h => ?_, fun D Q hI h => ?_⟩
    · refine v_in (tb' := t_X4_copy) (rk' := 1) rfl rfl rfl ?_
      refine v_go rfl ?_
      refine v_ca rfl ?_
      refine c_isSheet (fun hx => ?_) (fun _ => ?_)
      · refine v_go rfl ?_
        refine v_bF rfl (by decide) ?_
        refine v_go rfl ?_
        refine v_ca rfl ?_
        refine c_isSheet (fun hu => absurd ⟨hx, hu⟩ hxu) (fun _ => ?_)
        refine v_go rfl ?_
        refine v_bF rfl (by decide) ?_
        exact v_go rfl (v_rt rfl trivial (h _ ((frC.refl _).up (by omega)) (InvC_fl _ hI)))
      · refine v_go rfl ?_
        refine v_bT rfl (by decide) ?_
        exact v_go rfl (v_rt rfl trivial (h _ ((frC.refl _).up (by omega)) (InvC_fl _ hI)))
    · refine v_in (tb' := t_X5_copy) (rk' := 1) rfl rfl rfl ?_
      refine v_go rfl ?_
      refine v_ca rfl ?_
      refine c_noSheet (fun hx => ?_) (fun _ => ?_)
      · refine v_go rfl ?_
        refine v_bF rfl (by decide) ?_
        refine v_go rfl ?_
        refine v_ca rfl ?_
        refine c_noSheet (fun hu => absurd ⟨hx, hu⟩ hxu) (fun _ => ?_)
        refine v_go rfl ?_
        refine v_bF rfl (by decide) ?_
        refine v_go rfl ?_
        refine v_ca rfl ?_
        refine c_refused ?_
        exact v_rt rfl trivial (h _ ((frM.refl _).up (by omega)) (InvM_fl _ hI))
      · refine v_go rfl ?_
        refine v_bT rfl (by decide) ?_
        refine v_go rfl ?_
        refine v_ca rfl ?_
        refine c_refused ?_
        exact v_rt rfl trivial (h _ ((frM.refl _).up (by omega)) (InvM_fl _ hI))
