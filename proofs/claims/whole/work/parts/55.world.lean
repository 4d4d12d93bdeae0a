/-! ===== the start: a new class, a new reference; the law's body ===== -/
def Z0 : ZS := ((0, 0, fun _ _ => 0, fun _ _ => false), (0, fun _ => 0, fun _ => 0), fun _ => none, 0, 0)
def D0 (xs : Nat → Int32) : m_D := fun a => if a = 60 then xs else if a = 56 then k_m1 else k_z
theorem okZ_0 : okZ Z0 := ⟨⟨Nat.zero_le _, Nat.zero_le _, fun l h => absurd h (Nat.not_lt_zero l), fun c h => absurd h (Nat.not_lt_zero c)⟩, Iff.rfl, Nat.zero_le _, fun i h => absurd h (Nat.not_lt_zero i), fun k hk la n f e => by cases e⟩
theorem D0_z {xs : Nat → Int32} {a j : Nat} (h1 : a ≠ 60) (h2 : a ≠ 56) : D0 xs a j = 0 := by
  unfold D0
  rw [if_neg h1, if_neg h2]
theorem D0_56 {xs : Nat → Int32} : D0 xs 56 = k_m1 := by
  unfold D0
  rw [if_neg (by decide), if_pos rfl]
theorem D0_60 {xs : Nat → Int32} : D0 xs 60 = xs := if_pos rfl
theorem k_m1_at : ∀ k, k < 4 → k_m1 k = -1 := by decide +kernel
theorem InvC_0 {xs : Nat → Int32} : InvC Z0 (D0 xs) := ⟨⟨(D0_z (by decide) (by decide)).trans nI_0.symm, (D0_z (by decide) (by decide)).trans nI_0.symm, fun l h => absurd h (Nat.not_lt_zero l), fun c h => absurd h (Nat.not_lt_zero c), fun t _ => (D0_z (by decide) (by decide)).trans nI_0.symm⟩, (D0_z (by decide) (by decide)).trans nI_0.symm, fun i h => absurd h (Nat.not_lt_zero i), fun k hk => D0_z (by omega) (by omega), D0_z (by decide) (by decide), D0_z (by decide) (by decide)⟩
theorem InvM_0 {xs : Nat → Int32} : InvM Z0 (D0 xs) := ⟨⟨(D0_z (by decide) (by decide)).trans nI_0.symm, (D0_z (by decide) (by decide)).trans nI_0.symm, fun l h => absurd h (Nat.not_lt_zero l), fun c h => absurd h (Nat.not_lt_zero c), fun t _ => (D0_z (by decide) (by decide)).trans nI_0.symm⟩, (D0_z (by decide) (by decide)).trans nI_0.symm, fun i h => absurd h (Nat.not_lt_zero i), fun k hk => (congrFun D0_56 k).trans (k_m1_at k hk), D0_z (by decide) (by decide), D0_z (by decide) (by decide)⟩
def k_ad (as : List Nat) : Nat → Nat := fun i => as.getD i 0
theorem k_sh_eq (ad : Nat → Nat) : k_sh (ad 24) (ad 26) (ad 28) (ad 30) = fun k => (([24, 26, 28, 30] : List Nat)[k]?).map ad := by
  funext k
  match k with
  | 0 => rfl
  | 1 => rfl
  | 2 => rfl
  | 3 => rfl
  | k + 4 => simp [k_sh, va_up]
def k_mi {α β : Type} (f : Nat → α → β) : Nat → List α → List β
  | _, [] => []
  | i, a :: l => f i a :: k_mi f (i + 1) l
theorem k_mi_eq {α β : Type} (f : Nat → α → β) : ∀ (l : List α) (i : Nat), l.mapIdx (fun j a => f (i + j) a) = k_mi f i l
  | [], i => by rw [List.mapIdx_nil]; rfl
  | a :: l, i => by
    rw [List.mapIdx_cons]
    show f (i + 0) a :: _ = f i a :: k_mi f (i + 1) l
    rw [← k_mi_eq f l (i + 1)]
    have e : (fun (j : Nat) (a : α) => f (i + (j + 1)) a) = fun j a => f (i + 1 + j) a := by
      funext j a
      rw [show i + (j + 1) = i + 1 + j by omega]
    rw [e]
    rfl
theorem k_mi_0 {α β : Type} (f : Nat → α → β) (l : List α) : l.mapIdx f = k_mi f 0 l := by
  have h := k_mi_eq f l 0
  simpa using h
def k_ele (ad : Nat → Nat) (cI cR : ClassId) (D : m_D) (i : Nat) : m_Sh → va_E
  | .inl n => .inl (cI, n, .inl (D i))
  | .inr (.inl js) => .inl (cR, js.length, .inr (.inr (.inr (.inr (fun k => (js[k]?).map ad)))))
  | .inr (.inr (ci, fs)) => .inr (ci, k_mi (fun k o => match o with
    | some q => Value.ref (ad q)
    | none => Value.int (D i k)) 0 fs)
theorem k_ele_eq (ad : Nat → Nat) (cI cR : ClassId) (D : m_D) (i : Nat) (sh : m_Sh) : m_ele ad cI cR D i sh = k_ele ad cI cR D i sh := by
  rcases sh with n | js | ⟨ci, fs⟩
  · rfl
  · rfl
  · simp only [m_ele, k_ele]
    rw [k_mi_0]
    rfl
theorem k_w_eq (ad : Nat → Nat) (cI cR : ClassId) (D : m_D) : m_w ad cI cR D = k_mi (fun i sh => (ad i, k_ele ad cI cR D i sh)) 0 m_shp := by
  unfold m_w
  rw [k_mi_0]
  have e : (fun (i : Nat) (sh : m_Sh) => (ad i, m_ele ad cI cR D i sh)) = fun i sh => (ad i, k_ele ad cI cR D i sh) := by
    funext i sh
    rw [k_ele_eq]
  rw [e]
set_option maxRecDepth 100000 in
set_option maxHeartbeats 4000000 in
theorem k_world (cI cR : ClassId) (xs : Nat → Int32) (x zn zn_1 zn_2 zn_3 zn_4 zn_5 zn_6 zt zt_1 zt_2 zt_3 zt_4 zt_5 zt_6 zf zf_1 zf_2 zf_3 zf_4 zf_5 zr zr_1 sh s0 s0_1 s1 s1_1 s2 s2_1 s3 s3_1 ra rb y q1 q2 q3 q4 q5 q6 q7 q8 q9 q10 q11 q12 q13 q14 q15 q16 q17 q18 q19 q20 q21 q22 q23 q24 q25 b : Nat) : k_w4 cI cR x zn zn_1 zn_2 zn_3 zn_4 zn_5 zn_6 zt zt_1 zt_2 zt_3 zt_4 zt_5 zt_6 zf zf_1 zf_2 zf_3 zf_4 zf_5 zr zr_1 sh s0 s0_1 s1 s1_1 s2 s2_1 s3 s3_1 ra rb ++ k_w5 cI y q1 q2 q3 q4 q5 q6 q7 q8 q9 q10 q11 q12 q13 q14 q15 q16 q17 q18 q19 q20 q21 q22 q23 q24 q25 = m_w (k_ad [x, zn, zn_1, zn_2, zn_3, zn_4, zn_5, zn_6, zt, zt_1, zt_2, zt_3, zt_4, zt_5, zt_6, zf, zf_1, zf_2, zf_3, zf_4, zf_5, zr, zr_1, sh, s0, s0_1, s1, s1_1, s2, s2_1, s3, s3_1, ra, rb, y, q1, q2, q3, q4, q5, q6, q7, q8, q9, q10, q11, q12, q13, q14, q15, q16, q17, q18, q19, q20, q21, q22, q23, q24, q25, b]) cI cR (D0 xs) := by
  have e : k_sh s0 s1 s2 s3 = fun k => (([24, 26, 28, 30] : List Nat)[k]?).map (k_ad [x, zn, zn_1, zn_2, zn_3, zn_4, zn_5, zn_6, zt, zt_1, zt_2, zt_3, zt_4, zt_5, zt_6, zf, zf_1, zf_2, zf_3, zf_4, zf_5, zr, zr_1, sh, s0, s0_1, s1, s1_1, s2, s2_1, s3, s3_1, ra, rb, y, q1, q2, q3, q4, q5, q6, q7, q8, q9, q10, q11, q12, q13, q14, q15, q16, q17, q18, q19, q20, q21, q22, q23, q24, q25, b]) := k_sh_eq (k_ad [x, zn, zn_1, zn_2, zn_3, zn_4, zn_5, zn_6, zt, zt_1, zt_2, zt_3, zt_4, zt_5, zt_6, zf, zf_1, zf_2, zf_3, zf_4, zf_5, zr, zr_1, sh, s0, s0_1, s1, s1_1, s2, s2_1, s3, s3_1, ra, rb, y, q1, q2, q3, q4, q5, q6, q7, q8, q9, q10, q11, q12, q13, q14, q15, q16, q17, q18, q19, q20, q21, q22, q23, q24, q25, b])
  rw [k_w_eq]
  unfold k_w4 k_w5
  rw [e]
  rfl
