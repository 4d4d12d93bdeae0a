/-! ===== kinds, paces, starts ===== -/
abbrev RD : Type := Nat × (Nat → Nat) × (Nat → Nat)
def p_so (S : SH) (rd : RD) : Nat → Bool
  | 0 => true
  | x + 1 => p_so S rd x && decide (p_wet S (rd.2.1 x) S.1 = rd.2.2 x)
theorem p_so_pre (S : SH) (rd : RD) (x : Nat) (h : p_so S rd x = false) : ∀ m, p_so S rd (x + m) = false
  | 0 => h
  | m + 1 => by
    show (p_so S rd (x + m) && _) = false
    rw [p_so_pre S rd x h m]
    rfl
def p_fit (S : SH) (rd : RD) (i c lo : Nat) : Nat → Int32
  | 0 => 0
  | m + 1 => p_fit S rd i c lo m ||| (if p_so (setT S i c (lo + m)) rd rd.1 = true then (1 : Int32) <<< (nI (lo + m) &&& 31) else (0 : Int32))
def okR (rd : RD) : Prop := rd.1 ≤ 8 ∧ ∀ x, x < rd.1 → rd.2.1 x < 4 ∧ rd.2.2 x ≤ 120
def relRC (rd : RD) (D : m_D) : Prop := D 0 7 = nI rd.1 ∧ ∀ x, x < rd.1 → D 32 x = nI (rd.2.1 x) ∧ D 33 x = nI (rd.2.2 x)
def relRM (rd : RD) (D : m_D) : Prop := D 34 26 = nI rd.1 ∧ ∀ x, x < rd.1 → D 54 x = nI (rd.2.1 x) ∧ D 55 x = nI (rd.2.2 x)
theorem c_allSo {L d : Nat} {S : SH} {rd : RD} {D : m_D} {Q : m_K} (ho : okS S) (hR : okR rd) (hr : relRC rd D) (hF : ∀ f, f < 4 → D 20 f = nI (p_wet S f S.1)) (h1 : p_so S rd rd.1 = true → Q (some (.int 1)) D) (h0 : p_so S rd rd.1 = false → Q (some (.int 0)) D) : m_call L (d + 1) 62 [.ref 0] D Q := by
  obtain ⟨r7, r32⟩ := hr
  obtain ⟨h8, hb⟩ := hR
  have key : ∀ (m x : Nat), x + m = rd.1 → p_so S rd x = true → m_V L d Q t_X4_allReadingsAreSo 2 (2, [some (.ref 0), some (.int (nI x))], [], D) := by
    intro m
    induction m with
    | zero =>
      intro x hm hs
      have hm : x = rd.1 := by omega
      subst hm
      refine v_go rfl ?_
      rw [r7]
      refine v_bT rfl (Int32.le_refl _) ?_
      exact v_go rfl (v_rt rfl (Or.inr rfl) (h1 hs))
    | succ m ih =>
      intro x hm hs
      have hin : vp_in (nI x) 8 := vp_in_nI (by omega) (by omega)
      have hcl : (nI x).toNatClampNeg = x := nI_clamp (by omega)
      obtain ⟨b1, b2⟩ := hb x (by omega)
      obtain ⟨q1, q2⟩ := r32 x (by omega)
      have hin2 : vp_in (nI (rd.2.1 x)) 4 := vp_in_nI b1 (by omega)
      have hcl2 : (nI (rd.2.1 x)).toNatClampNeg = rd.2.1 x := nI_clamp (by omega)
      have h102 := p_wet_102 ho (rd.2.1 x)
      refine v_go rfl ?_
      rw [r7]
      refine v_bF rfl (nI_ge (by omega) (by omega)) ?_
      refine v_go rfl ?_
      refine v_sd rfl hin ?_
      rw [hcl, q1]
      refine v_sd rfl hin2 ?_
      rw [hcl2, hF _ b1]
      refine v_go rfl ?_
      refine v_sd rfl hin ?_
      rw [hcl, q2]
      by_cases g : p_wet S (rd.2.1 x) S.1 = rd.2.2 x
      · refine v_bT rfl ((nI_eq (by omega) (by omega)).mpr g) ?_
        have ih := ih (x + 1) (by omega) (by
          show (p_so S rd x && decide (p_wet S (rd.2.1 x) S.1 = rd.2.2 x)) = true
          rw [hs, decide_eq_true g]
          rfl)
        rw [← nI_1] at ih
        exact v_run 2 rfl ih
      · refine v_bF rfl (fun z => g ((nI_eq (by omega) (by omega)).mp z)) ?_
        have e0 : p_so S rd (x + 1) = false := by
          show (p_so S rd x && decide (p_wet S (rd.2.1 x) S.1 = rd.2.2 x)) = false
          rw [hs, decide_eq_false g]
          rfl
        have e1 := p_so_pre S rd (x + 1) e0 m
        rw [show x + 1 + m = rd.1 by omega] at e1
        exact v_go rfl (v_rt rfl (Or.inl rfl) (h0 e1))
  refine v_in (tb' := t_X4_allReadingsAreSo) (rk' := 2) rfl rfl rfl ?_
  exact v_run 2 rfl (key rd.1 0 (by omega) rfl)
theorem c_areSo {L d : Nat} {S : SH} {rd : RD} {D : m_D} {Q : m_K} (hr : relM D S) (ho : okS S) (hR : okR rd) (hrr : relRM rd D) (h1 : ∀ D', m_fM z_R [22] D D' → p_so S rd rd.1 = true → Q (some (.int 1)) D') (h0 : ∀ D', m_fM z_R [22] D D' → p_so S rd rd.1 = false → Q (some (.int 0)) D') : m_call L (d + 4) 146 [.ref 34] D Q := by
  refine v_in (tb' := t_X5_areSo) (rk' := 2) rfl rfl rfl ?_
  refine v_go rfl ?_
  refine v_ca rfl ?_
  refine c_rains hr ho (fun D3 hf3 hF => ?_)
  obtain ⟨r7, r32⟩ := hrr
  have r7 : D3 34 26 = nI rd.1 := by rw [hf3.2 26 (by simp)]; exact r7
  have e54 : D3 54 = D 54 := hf3.1 54 (by simp) (by decide)
  have e55 : D3 55 = D 55 := hf3.1 55 (by simp) (by decide)
  have r32 : ∀ x, x < rd.1 → D3 54 x = nI (rd.2.1 x) ∧ D3 55 x = nI (rd.2.2 x) := fun x hx => by rw [e54, e55]; exact r32 x hx
  obtain ⟨h8, hb⟩ := hR
  have key : ∀ (m x : Nat), x + m = rd.1 → m_V L (d + 3) Q t_X5_areSo 2 (8, [some (.ref 34), some (.int (if p_so S rd x = true then 1 else 0)), some (.int (nI x))], [], D3) := by
    intro m
    induction m with
    | zero =>
      intro x hm
      have hm : x = rd.1 := by omega
      subst hm
      refine v_go rfl ?_
      rw [r7]
      refine v_bT rfl (Int32.le_refl _) ?_
      cases hs : p_so S rd rd.1 with
      | true => exact v_go rfl (v_rt rfl (Or.inr rfl) (h1 D3 hf3 hs))
      | false => exact v_go rfl (v_rt rfl (Or.inl rfl) (h0 D3 hf3 hs))
    | succ m ih =>
      intro x hm
      have hin : vp_in (nI x) 8 := vp_in_nI (by omega) (by omega)
      have hcl : (nI x).toNatClampNeg = x := nI_clamp (by omega)
      obtain ⟨b1, b2⟩ := hb x (by omega)
      obtain ⟨q1, q2⟩ := r32 x (by omega)
      have hin2 : vp_in (nI (rd.2.1 x)) 4 := vp_in_nI b1 (by omega)
      have hcl2 : (nI (rd.2.1 x)).toNatClampNeg = rd.2.1 x := nI_clamp (by omega)
      have h102 := p_wet_102 ho (rd.2.1 x)
      have ih := ih (x + 1) (by omega)
      rw [← nI_1] at ih
      have e : p_so S rd (x + 1) = (p_so S rd x && decide (p_wet S (rd.2.1 x) S.1 = rd.2.2 x)) := rfl
      rw [e] at ih
      refine v_go rfl ?_
      rw [r7]
      refine v_bF rfl (nI_ge (by omega) (by omega)) ?_
      refine v_go rfl ?_
      cases hs : p_so S rd x with
      | false =>
        rw [hs] at ih
        refine v_bT rfl rfl ?_
        exact v_run 4 rfl ih
      | true =>
        rw [hs] at ih
        refine v_bF rfl (by decide) ?_
        refine v_go rfl ?_
        refine v_sd rfl hin ?_
        rw [hcl, q1]
        refine v_sd rfl hin2 ?_
        rw [hcl2, hF.2.2.1 _ b1]
        refine v_go rfl ?_
        refine v_sd rfl hin ?_
        rw [hcl, q2]
        by_cases g : p_wet S (rd.2.1 x) S.1 = rd.2.2 x
        · rw [decide_eq_true g] at ih
          refine v_bF rfl (fun z => z ((nI_eq (by omega) (by omega)).mpr g)) ?_
          exact v_run 5 rfl ih
        · rw [decide_eq_false g] at ih
          refine v_bT rfl (fun z => g ((nI_eq (by omega) (by omega)).mp z)) ?_
          exact v_run 4 rfl ih
  exact v_run 4 rfl (key rd.1 0 (by omega))
theorem c_fitting {L d i c lo m : Nat} {S : SH} {rd : RD} {D : m_D} {Q : m_K} (hi : i = 2 ∨ i = 3 ∨ i = 4) (hr : relC 1 D S) (ho : okS S) (hc : c < S.2.1) (hm : m ≠ 0) (hb : lo + m ≤ 10) (hok : ∀ j, j < m → okT S i (lo + j)) (hR : okR rd) (hrr : relRC rd D) (h : ∀ D', m_fr z_FT D D' → Q (some (.int (p_fit S rd i c lo m))) D') : m_call L (d + 6) 61 [.ref 0, .int (nI c), .ref (8 + 1 + i), .int (nI lo), .int (nI (lo + m - 1))] D Q := by
  have hn6 := ho.1
  have hk3 := ho.2.1
  have hin : vp_in (nI c) 3 := vp_in_nI (by omega) (by omega)
  have hcl : (nI c).toNatClampNeg = c := nI_clamp (by omega)
  have st : ∀ (D1 : m_D) (v a b e : Int32), m_V L (d + 5) Q t_X4_fitting 1 (29, [some (.ref 0), some (.int (nI c)), some (.ref (8 + 1 + i)), some (.int a), some (.int b), some (.int e), some (.int v)], [], m_up D1 (8 + 1 + i) c v) → m_V L (d + 5) Q t_X4_fitting 1 (24, [some (.ref 0), some (.int (nI c)), some (.ref (8 + 1 + i)), some (.int a), some (.int b), some (.int e), some (.int v)], [], D1) := by
    intro D1 v a b e hk
    rcases hi with rfl | rfl | rfl
    · show m_V L (d + 5) Q t_X4_fitting 1 (24, [some (.ref 0), some (.int (nI c)), some (.ref 11), some (.int a), some (.int b), some (.int e), some (.int v)], [], D1)
      refine v_go rfl ?_
      refine v_sd rfl hin ?_
      rw [hcl]
      exact hk
    · show m_V L (d + 5) Q t_X4_fitting 1 (24, [some (.ref 0), some (.int (nI c)), some (.ref 12), some (.int a), some (.int b), some (.int e), some (.int v)], [], D1)
      refine v_go rfl ?_
      refine v_sd rfl hin ?_
      rw [hcl]
      exact hk
    · show m_V L (d + 5) Q t_X4_fitting 1 (24, [some (.ref 0), some (.int (nI c)), some (.ref 13), some (.int a), some (.int b), some (.int e), some (.int v)], [], D1)
      refine v_go rfl ?_
      refine v_sd rfl hin ?_
      rw [hcl]
      exact hk
  have key : ∀ (q j : Nat) (D1 : m_D), j + q = m → m_fr z_FT D D1 → trT i c S D1 → m_V L (d + 5) Q t_X4_fitting 1 (17, [some (.ref 0), some (.int (nI c)), some (.ref (8 + 1 + i)), some (.int (nI lo)), some (.int (nI (lo + m - 1))), some (.int (p_fit S rd i c lo j)), some (.int (nI (lo + j)))], [], D1) := by
    intro q
    induction q with
    | zero =>
      intro j D1 hq hf ht
      have hq : j = m := by omega
      subst hq
      refine v_go rfl ?_
      refine v_bT rfl (nI_lt (by omega) (by omega)) ?_
      exact v_go rfl (v_rt rfl trivial (h D1 hf))
    | succ q ih =>
      intro j D1 hq hf ht
      have hr2 := trT_up (by omega) ht (lo + j)
      have hf2 : m_fr z_FT D (m_up D1 (8 + 1 + i) c (nI (lo + j))) := hf.up (by
        simp only [z_FT, List.mem_cons, List.not_mem_nil, or_false]
        omega)
      have ho2 : okS (setT S i c (lo + j)) := okS_setT ho (hok j (by omega))
      refine v_go rfl ?_
      refine v_bF rfl (nI_nlt (by omega) (by omega)) ?_
      refine st D1 _ _ _ _ ?_
      refine v_go rfl ?_
      refine v_ca rfl ?_
      refine c_workOut (Or.inr rfl) hr2 ho2 (fun D3 hf3 hF => ?_)
      have hf4 := hf2.trans (fF hf3)
      have ih := ih (j + 1) D3 (by omega) hf4 (trT_F hf3 hr2)
      rw [← Nat.add_assoc, ← nI_1] at ih
      have e : p_fit S rd i c lo (j + 1) = p_fit S rd i c lo j ||| (if p_so (setT S i c (lo + j)) rd rd.1 = true then (1 : Int32) <<< (nI (lo + j) &&& 31) else (0 : Int32)) := rfl
      rw [e] at ih
      have hrr3 : relRC rd D3 := by
        unfold relRC
        rw [hf4 0 (by simp), hf4 32 (by simp), hf4 33 (by simp)]
        exact hrr
      refine v_go rfl ?_
      refine v_ca rfl ?_
      refine c_allSo ho2 hR hrr3 hF.2.2.1 (fun z => ?_) (fun z => ?_)
      · rw [z, if_pos rfl] at ih
        refine v_go rfl ?_
        refine v_bF rfl (by decide) ?_
        exact v_run 8 rfl ih
      · rw [z, if_neg (by decide)] at ih
        refine v_go rfl ?_
        refine v_bT rfl rfl ?_
        exact v_run 5 rfl ih
  refine v_in (tb' := t_X4_fitting) (rk' := 1) rfl rfl rfl ?_
  refine v_go rfl ?_
  refine v_ca rfl ?_
  refine c_become hr ho (fun D1 hf1 hr1 => ?_)
  exact v_run 4 rfl (key m 0 D1 (by omega) (fT hf1) (trT_0 hr1))
abbrev z_MU : List Nat := [35, 36, 37, 38, 39, 40, 46, 47, 48, 49, 50, 51, 52, 53]
theorem InvM_MU {Z : ZS} {D D' : m_D} (h : InvM Z D) (hr : relM D' Z.1) (hf : m_fM z_MU [22] D D') : InvM Z D' := by
  obtain ⟨S, rd, sh, tr, fl⟩ := Z
  exact InvM_S h hr (fun a ha => hf.1 a (by
    simp only [z_MU, List.mem_cons, List.not_mem_nil, or_false]
    omega) (by omega)) (fun j hj => hf.2 j (by
    simp only [List.mem_cons, List.not_mem_nil, or_false] at hj ⊢
    omega))
theorem frM_MU {D D' : m_D} (hf : m_fM z_MU [22] D D') : frM D D' := frM.of hf (by decide)
theorem muR {D D' : m_D} (hf : m_fM z_R [22] D D') : m_fM z_MU [22] D D' := hf.sub (by simp) (by simp)
theorem y_kinds {L c : Nat} {S : SH} {rd : RD} {D : m_D} {Q : m_K} (hr : relM D S) (ho : okS S) (hc : c < S.2.1) (hR : okR rd) (hrr : relRM rd D) (h : ∀ D', m_fM z_MU [22] D D' → relM D' S → Q (some (.int (p_fit S rd 2 c 0 3))) D') : m_call L 8 147 [.ref 34, .int (nI c)] D Q := by
  have hn6 := ho.1
  have hk3 := ho.2.1
  have hin : vp_in (nI c) 3 := vp_in_nI (by omega) (by omega)
  have hcl : (nI c).toNatClampNeg = c := nI_clamp (by omega)
  have rS : D 37 c = nI (S.2.2.1 2 c) := (hr.2.2.2.1 c hc).1
  have r1 : D 34 1 = nI S.1 := hr.1
  have key : ∀ (q j : Nat) (D1 : m_D), j + q = 3 → m_fM z_MU [22] D D1 → trU 2 c S D1 → m_V L 7 Q t_X5_kinds 1 (22, [some (.ref 34), some (.int (nI c)), some (.int (nI (S.2.2.1 2 c))), some (.int (p_fit S rd 2 c 0 j)), some (.int (nI (0 + j)))], [], D1) := by
    intro q
    induction q with
    | zero =>
      intro j D1 hq hf ht
      have hq : j = 3 := by omega
      subst hq
      have r1 : D1 34 1 = nI S.1 := by rw [hf.2 1 (by simp)]; exact r1
      have hr2 := trU_up (by omega) ht (S.2.2.1 2 c)
      rw [setT_self] at hr2
      have hf2 : m_fM z_MU [22] D (m_up D1 37 c (nI (S.2.2.1 2 c))) := hf.up (by simp) (by decide)
      have h := h _ hf2 hr2
      refine v_go rfl ?_
      refine v_bT rfl (by decide) ?_
      refine v_go rfl ?_
      refine v_sd rfl hin ?_
      rw [hcl]
      exact v_go rfl (v_rt rfl trivial h)
    | succ q ih =>
      intro j D1 hq hf ht
      have r1 : D1 34 1 = nI S.1 := by rw [hf.2 1 (by simp)]; exact r1
      have hr2 := trU_up (by omega) ht (0 + j)
      have hf2 : m_fM z_MU [22] D (m_up D1 37 c (nI (0 + j))) := hf.up (by simp) (by decide)
      have ho2 : okS (setT S 2 c (0 + j)) := okS_setT ho ⟨fun z => (by omega), fun z => (by omega), fun z => (by omega), fun z => (by omega), fun z => (by omega)⟩
      have hrr2 : relRM rd (m_up D1 37 c (nI (0 + j))) := by
        unfold relRM
        rw [hf2.2 26 (by simp), hf2.1 54 (by simp) (by decide), hf2.1 55 (by simp) (by decide)]
        exact hrr
      refine v_go rfl ?_
      refine v_bF rfl (nI_ge (b := 3) (by omega) (by omega)) ?_
      refine v_go rfl ?_
      refine v_sd rfl hin ?_
      rw [hcl]
      have e : p_fit S rd 2 c 0 (j + 1) = p_fit S rd 2 c 0 j ||| (if p_so (setT S 2 c (0 + j)) rd rd.1 = true then (1 : Int32) <<< (nI (0 + j) &&& 31) else (0 : Int32)) := rfl
      refine v_go rfl ?_
      refine v_ca rfl ?_
      refine c_areSo hr2 ho2 hR hrr2 (fun D3 hf3 z => ?_) (fun D3 hf3 z => ?_)
      · have ih := ih (j + 1) D3 (by omega) (hf2.trans (muR hf3)) (trU_R hf3 hr2)
        rw [← Nat.add_assoc, ← nI_1, e, z, if_pos rfl] at ih
        refine v_go rfl ?_
        refine v_bF rfl (by decide) ?_
        exact v_run 8 rfl ih
      · have ih := ih (j + 1) D3 (by omega) (hf2.trans (muR hf3)) (trU_R hf3 hr2)
        rw [← Nat.add_assoc, ← nI_1, e, z, if_neg (by decide)] at ih
        refine v_go rfl ?_
        refine v_bT rfl rfl ?_
        exact v_run 5 rfl ih
  refine v_in (tb' := t_X5_kinds) (rk' := 1) rfl rfl rfl ?_
  refine v_go rfl ?_
  refine v_ca rfl ?_
  refine c_noCrier hr.2.1 (by omega) (fun _ => ?_) (fun z => absurd (vp_in_nI hc (by omega)) z)
  refine v_go rfl ?_
  refine v_bT rfl rfl ?_
  refine v_go rfl ?_
  refine v_sd rfl hin ?_
  rw [hcl, rS]
  exact v_run 5 rfl (key 3 0 D (by omega) (m_fM.refl _ _ _) (trU_0 hr))
theorem s_kinds (x : Int32) : StepI 58 147 [.int x] := by
  intro L Z hz
  obtain ⟨S, rd, sh, tr, fl⟩ := Z
  have hoS : okS S := hz.1
  have hn6 : S.1 ≤ 6 := hoS.1
  have hnk : S.1 = 0 ↔ S.2.1 = 0 := hz.2.1
  have hk3 : S.2.1 ≤ 3 := hoS.2.1
  have hR : okR rd := ⟨hz.2.2.1, hz.2.2.2.1⟩
  by_cases hx : vp_in x S.2.1
  · obtain ⟨c, hc, rfl⟩ := vp_in_of hx (by omega)
    have hn : S.1 ≠ 0 := fun z => by
      have := hnk.mp z
      omega
    refine ⟨p_fit S rd 2 c 0 3, (S, rd, sh, tr, fl), hz, fun D Q hI h => ?_, fun D Q hI h => ?_⟩
    · have r1 : D 1 0 = nI S.1 := hI.1.1
      have hfit := c_fitting (L := L) (d := 1) (i := 2) (c := c) (lo := 0) (m := 3) (S := S) (rd := rd) (D := D) (Q := fun r D' => m_V L 7 Q t_X4_kinds 1 (m_beh 22 [some (.ref 0), some (.int (nI c))] [] r D')) (by omega) hI.1 hoS hc (by omega) (by omega) (fun j hj => ⟨fun z => (by omega), fun z => (by omega), fun z => (by omega), fun z => (by omega), fun z => (by omega)⟩) hR ⟨hI.2.1, hI.2.2.1⟩ (fun D' hf => v_go rfl (v_rt rfl trivial (h D' (frC_FT hf) (InvC_FT hI hf))))
      refine v_in (tb' := t_X4_kinds) (rk' := 1) rfl rfl rfl ?_
      refine v_go rfl ?_
      refine v_ca rfl ?_
      refine c_isCrier hI.1.2.1 (show S.2.1 ≤ 6 by omega) (fun _ => ?_) (fun z => absurd hx z)
      refine v_go rfl ?_
      refine v_bF rfl (by decide) ?_
      refine v_go rfl ?_
      refine v_ca rfl ?_
      exact hfit
    · exact y_kinds hI.1 hoS hc hR ⟨hI.2.1, hI.2.2.1⟩ (fun D' hf hr => h D' (frM_MU hf) (InvM_MU hI hr hf))
  · refine ⟨-1, (S, rd, sh, tr, fl), hz, fun D Q hI h => ?_, fun D Q hI h => ?_⟩
    · refine v_in (tb' := t_X4_kinds) (rk' := 1) rfl rfl rfl ?_
      refine v_go rfl ?_
      refine v_ca rfl ?_
      refine c_isCrier hI.1.2.1 (show S.2.1 ≤ 6 by omega) (fun z => absurd z hx) (fun _ => ?_)
      refine v_go rfl ?_
      refine v_bT rfl rfl ?_
      exact v_go rfl (v_rt rfl trivial (h _ (frC.refl _) hI))
    · refine v_in (tb' := t_X5_kinds) (rk' := 1) rfl rfl rfl ?_
      refine v_go rfl ?_
      refine v_ca rfl ?_
      refine c_noCrier hI.1.2.1 (show S.2.1 ≤ 6 by omega) (fun z => absurd z hx) (fun _ => ?_)
      refine v_go rfl ?_
      refine v_bF rfl (by decide) ?_
      exact v_go rfl (v_rt rfl trivial (h _ (frM.refl _) hI))
theorem y_paces {L c : Nat} {S : SH} {rd : RD} {D : m_D} {Q : m_K} (hr : relM D S) (ho : okS S) (hc : c < S.2.1) (hR : okR rd) (hrr : relRM rd D) (h : ∀ D', m_fM z_MU [22] D D' → relM D' S → Q (some (.int (p_fit S rd 3 c 1 3))) D') : m_call L 8 148 [.ref 34, .int (nI c)] D Q := by
  have hn6 := ho.1
  have hk3 := ho.2.1
  have hin : vp_in (nI c) 3 := vp_in_nI (by omega) (by omega)
  have hcl : (nI c).toNatClampNeg = c := nI_clamp (by omega)
  have rS : D 38 c = nI (S.2.2.1 3 c) := (hr.2.2.2.1 c hc).2.1
  have r1 : D 34 1 = nI S.1 := hr.1
  have key : ∀ (q j : Nat) (D1 : m_D), j + q = 3 → m_fM z_MU [22] D D1 → trU 3 c S D1 → m_V L 7 Q t_X5_paces 1 (22, [some (.ref 34), some (.int (nI c)), some (.int (nI (S.2.2.1 3 c))), some (.int (p_fit S rd 3 c 1 j)), some (.int (nI (1 + j)))], [], D1) := by
    intro q
    induction q with
    | zero =>
      intro j D1 hq hf ht
      have hq : j = 3 := by omega
      subst hq
      have r1 : D1 34 1 = nI S.1 := by rw [hf.2 1 (by simp)]; exact r1
      have hr2 := trU_up (by omega) ht (S.2.2.1 3 c)
      rw [setT_self] at hr2
      have hf2 : m_fM z_MU [22] D (m_up D1 38 c (nI (S.2.2.1 3 c))) := hf.up (by simp) (by decide)
      have h := h _ hf2 hr2
      refine v_go rfl ?_
      refine v_bT rfl (by decide) ?_
      refine v_go rfl ?_
      refine v_sd rfl hin ?_
      rw [hcl]
      exact v_go rfl (v_rt rfl trivial h)
    | succ q ih =>
      intro j D1 hq hf ht
      have r1 : D1 34 1 = nI S.1 := by rw [hf.2 1 (by simp)]; exact r1
      have hr2 := trU_up (by omega) ht (1 + j)
      have hf2 : m_fM z_MU [22] D (m_up D1 38 c (nI (1 + j))) := hf.up (by simp) (by decide)
      have ho2 : okS (setT S 3 c (1 + j)) := okS_setT ho ⟨fun z => (by omega), fun z => (by omega), fun z => (by omega), fun z => (by omega), fun z => (by omega)⟩
      have hrr2 : relRM rd (m_up D1 38 c (nI (1 + j))) := by
        unfold relRM
        rw [hf2.2 26 (by simp), hf2.1 54 (by simp) (by decide), hf2.1 55 (by simp) (by decide)]
        exact hrr
      refine v_go rfl ?_
      refine v_bF rfl (nI_ge (b := 4) (by omega) (by omega)) ?_
      refine v_go rfl ?_
      refine v_sd rfl hin ?_
      rw [hcl]
      have e : p_fit S rd 3 c 1 (j + 1) = p_fit S rd 3 c 1 j ||| (if p_so (setT S 3 c (1 + j)) rd rd.1 = true then (1 : Int32) <<< (nI (1 + j) &&& 31) else (0 : Int32)) := rfl
      refine v_go rfl ?_
      refine v_ca rfl ?_
      refine c_areSo hr2 ho2 hR hrr2 (fun D3 hf3 z => ?_) (fun D3 hf3 z => ?_)
      · have ih := ih (j + 1) D3 (by omega) (hf2.trans (muR hf3)) (trU_R hf3 hr2)
        rw [← Nat.add_assoc, ← nI_1, e, z, if_pos rfl] at ih
        refine v_go rfl ?_
        refine v_bF rfl (by decide) ?_
        exact v_run 8 rfl ih
      · have ih := ih (j + 1) D3 (by omega) (hf2.trans (muR hf3)) (trU_R hf3 hr2)
        rw [← Nat.add_assoc, ← nI_1, e, z, if_neg (by decide)] at ih
        refine v_go rfl ?_
        refine v_bT rfl rfl ?_
        exact v_run 5 rfl ih
  refine v_in (tb' := t_X5_paces) (rk' := 1) rfl rfl rfl ?_
  refine v_go rfl ?_
  refine v_ca rfl ?_
  refine c_noCrier hr.2.1 (by omega) (fun _ => ?_) (fun z => absurd (vp_in_nI hc (by omega)) z)
  refine v_go rfl ?_
  refine v_bT rfl rfl ?_
  refine v_go rfl ?_
  refine v_sd rfl hin ?_
  rw [hcl, rS]
  exact v_run 5 rfl (key 3 0 D (by omega) (m_fM.refl _ _ _) (trU_0 hr))
theorem s_paces (x : Int32) : StepI 59 148 [.int x] := by
  intro L Z hz
  obtain ⟨S, rd, sh, tr, fl⟩ := Z
  have hoS : okS S := hz.1
  have hn6 : S.1 ≤ 6 := hoS.1
  have hnk : S.1 = 0 ↔ S.2.1 = 0 := hz.2.1
  have hk3 : S.2.1 ≤ 3 := hoS.2.1
  have hR : okR rd := ⟨hz.2.2.1, hz.2.2.2.1⟩
  by_cases hx : vp_in x S.2.1
  · obtain ⟨c, hc, rfl⟩ := vp_in_of hx (by omega)
    have hn : S.1 ≠ 0 := fun z => by
      have := hnk.mp z
      omega
    refine ⟨p_fit S rd 3 c 1 3, (S, rd, sh, tr, fl), hz, fun D Q hI h => ?_, fun D Q hI h => ?_⟩
    · have r1 : D 1 0 = nI S.1 := hI.1.1
      have hfit := c_fitting (L := L) (d := 1) (i := 3) (c := c) (lo := 1) (m := 3) (S := S) (rd := rd) (D := D) (Q := fun r D' => m_V L 7 Q t_X4_paces 1 (m_beh 22 [some (.ref 0), some (.int (nI c))] [] r D')) (by omega) hI.1 hoS hc (by omega) (by omega) (fun j hj => ⟨fun z => (by omega), fun z => (by omega), fun z => (by omega), fun z => (by omega), fun z => (by omega)⟩) hR ⟨hI.2.1, hI.2.2.1⟩ (fun D' hf => v_go rfl (v_rt rfl trivial (h D' (frC_FT hf) (InvC_FT hI hf))))
      refine v_in (tb' := t_X4_paces) (rk' := 1) rfl rfl rfl ?_
      refine v_go rfl ?_
      refine v_ca rfl ?_
      refine c_isCrier hI.1.2.1 (show S.2.1 ≤ 6 by omega) (fun _ => ?_) (fun z => absurd hx z)
      refine v_go rfl ?_
      refine v_bF rfl (by decide) ?_
      refine v_go rfl ?_
      refine v_ca rfl ?_
      exact hfit
    · exact y_paces hI.1 hoS hc hR ⟨hI.2.1, hI.2.2.1⟩ (fun D' hf hr => h D' (frM_MU hf) (InvM_MU hI hr hf))
  · refine ⟨-1, (S, rd, sh, tr, fl), hz, fun D Q hI h => ?_, fun D Q hI h => ?_⟩
    · refine v_in (tb' := t_X4_paces) (rk' := 1) rfl rfl rfl ?_
      refine v_go rfl ?_
      refine v_ca rfl ?_
      refine c_isCrier hI.1.2.1 (show S.2.1 ≤ 6 by omega) (fun z => absurd z hx) (fun _ => ?_)
      refine v_go rfl ?_
      refine v_bT rfl rfl ?_
      exact v_go rfl (v_rt rfl trivial (h _ (frC.refl _) hI))
    · refine v_in (tb' := t_X5_paces) (rk' := 1) rfl rfl rfl ?_
      refine v_go rfl ?_
      refine v_ca rfl ?_
      refine c_noCrier hI.1.2.1 (show S.2.1 ≤ 6 by omega) (fun z => absurd z hx) (fun _ => ?_)
      refine v_go rfl ?_
      refine v_bF rfl (by decide) ?_
      exact v_go rfl (v_rt rfl trivial (h _ (frM.refl _) hI))
theorem y_starts {L c : Nat} {S : SH} {rd : RD} {D : m_D} {Q : m_K} (hr : relM D S) (ho : okS S) (hc : c < S.2.1) (hR : okR rd) (hrr : relRM rd D) (h : ∀ D', m_fM z_MU [22] D D' → relM D' S → Q (some (.int (p_fit S rd 4 c 0 S.1))) D') : m_call L 8 149 [.ref 34, .int (nI c)] D Q := by
  have hn6 := ho.1
  have hk3 := ho.2.1
  have hin : vp_in (nI c) 3 := vp_in_nI (by omega) (by omega)
  have hcl : (nI c).toNatClampNeg = c := nI_clamp (by omega)
  have rS : D 39 c = nI (S.2.2.1 4 c) := (hr.2.2.2.1 c hc).2.2
  have r1 : D 34 1 = nI S.1 := hr.1
  have key : ∀ (q j : Nat) (D1 : m_D), j + q = S.1 → m_fM z_MU [22] D D1 → trU 4 c S D1 → m_V L 7 Q t_X5_starts 1 (22, [some (.ref 34), some (.int (nI c)), some (.int (nI (S.2.2.1 4 c))), some (.int (p_fit S rd 4 c 0 j)), some (.int (nI (0 + j)))], [], D1) := by
    intro q
    induction q with
    | zero =>
      intro j D1 hq hf ht
      have hq : j = S.1 := by omega
      subst hq
      have r1 : D1 34 1 = nI S.1 := by rw [hf.2 1 (by simp)]; exact r1
      have hr2 := trU_up (by omega) ht (S.2.2.1 4 c)
      rw [setT_self] at hr2
      have hf2 : m_fM z_MU [22] D (m_up D1 39 c (nI (S.2.2.1 4 c))) := hf.up (by simp) (by decide)
      have h := h _ hf2 hr2
      refine v_go rfl ?_
      rw [r1]
      refine v_bT rfl (by rw [Nat.zero_add]; exact Int32.le_refl _) ?_
      refine v_go rfl ?_
      refine v_sd rfl hin ?_
      rw [hcl]
      exact v_go rfl (v_rt rfl trivial h)
    | succ q ih =>
      intro j D1 hq hf ht
      have r1 : D1 34 1 = nI S.1 := by rw [hf.2 1 (by simp)]; exact r1
      have hr2 := trU_up (by omega) ht (0 + j)
      have hf2 : m_fM z_MU [22] D (m_up D1 39 c (nI (0 + j))) := hf.up (by simp) (by decide)
      have ho2 : okS (setT S 4 c (0 + j)) := okS_setT ho ⟨fun z => (by omega), fun z => (by omega), fun z => (by omega), fun z => (by omega), fun z => (by omega)⟩
      have hrr2 : relRM rd (m_up D1 39 c (nI (0 + j))) := by
        unfold relRM
        rw [hf2.2 26 (by simp), hf2.1 54 (by simp) (by decide), hf2.1 55 (by simp) (by decide)]
        exact hrr
      refine v_go rfl ?_
      rw [r1]
      refine v_bF rfl (nI_ge (by omega) (by omega)) ?_
      refine v_go rfl ?_
      refine v_sd rfl hin ?_
      rw [hcl]
      have e : p_fit S rd 4 c 0 (j + 1) = p_fit S rd 4 c 0 j ||| (if p_so (setT S 4 c (0 + j)) rd rd.1 = true then (1 : Int32) <<< (nI (0 + j) &&& 31) else (0 : Int32)) := rfl
      refine v_go rfl ?_
      refine v_ca rfl ?_
      refine c_areSo hr2 ho2 hR hrr2 (fun D3 hf3 z => ?_) (fun D3 hf3 z => ?_)
      · have ih := ih (j + 1) D3 (by omega) (hf2.trans (muR hf3)) (trU_R hf3 hr2)
        rw [← Nat.add_assoc, ← nI_1, e, z, if_pos rfl] at ih
        refine v_go rfl ?_
        refine v_bF rfl (by decide) ?_
        exact v_run 8 rfl ih
      · have ih := ih (j + 1) D3 (by omega) (hf2.trans (muR hf3)) (trU_R hf3 hr2)
        rw [← Nat.add_assoc, ← nI_1, e, z, if_neg (by decide)] at ih
        refine v_go rfl ?_
        refine v_bT rfl rfl ?_
        exact v_run 5 rfl ih
  refine v_in (tb' := t_X5_starts) (rk' := 1) rfl rfl rfl ?_
  refine v_go rfl ?_
  refine v_ca rfl ?_
  refine c_noCrier hr.2.1 (by omega) (fun _ => ?_) (fun z => absurd (vp_in_nI hc (by omega)) z)
  refine v_go rfl ?_
  refine v_bT rfl rfl ?_
  refine v_go rfl ?_
  refine v_sd rfl hin ?_
  rw [hcl, rS]
  exact v_run 5 rfl (key S.1 0 D (by omega) (m_fM.refl _ _ _) (trU_0 hr))
theorem s_starts (x : Int32) : StepI 60 149 [.int x] := by
  intro L Z hz
  obtain ⟨S, rd, sh, tr, fl⟩ := Z
  have hoS : okS S := hz.1
  have hn6 : S.1 ≤ 6 := hoS.1
  have hnk : S.1 = 0 ↔ S.2.1 = 0 := hz.2.1
  have hk3 : S.2.1 ≤ 3 := hoS.2.1
  have hR : okR rd := ⟨hz.2.2.1, hz.2.2.2.1⟩
  by_cases hx : vp_in x S.2.1
  · obtain ⟨c, hc, rfl⟩ := vp_in_of hx (by omega)
    have hn : S.1 ≠ 0 := fun z => by
      have := hnk.mp z
      omega
    refine ⟨p_fit S rd 4 c 0 S.1, (S, rd, sh, tr, fl), hz, fun D Q hI h => ?_, fun D Q hI h => ?_⟩
    · have r1 : D 1 0 = nI S.1 := hI.1.1
      have hfit := c_fitting (L := L) (d := 1) (i := 4) (c := c) (lo := 0) (m := S.1) (S := S) (rd := rd) (D := D) (Q := fun r D' => m_V L 7 Q t_X4_starts 1 (m_beh 30 [some (.ref 0), some (.int (nI c))] [] r D')) (by omega) hI.1 hoS hc (by omega) (by omega) (fun j hj => ⟨fun z => (by omega), fun z => (by omega), fun z => (by omega), fun z => (by omega), fun z => (by omega)⟩) hR ⟨hI.2.1, hI.2.2.1⟩ (fun D' hf => v_go rfl (v_rt rfl trivial (h D' (frC_FT hf) (InvC_FT hI hf))))
      refine v_in (tb' := t_X4_starts) (rk' := 1) rfl rfl rfl ?_
      refine v_go rfl ?_
      refine v_ca rfl ?_
      refine c_isCrier hI.1.2.1 (show S.2.1 ≤ 6 by omega) (fun _ => ?_) (fun z => absurd hx z)
      refine v_go rfl ?_
      refine v_bF rfl (by decide) ?_
      refine v_go rfl ?_
      refine v_ca rfl ?_
      rw [r1, nI_p hn, show S.1 - 1 = 0 + S.1 - 1 by omega]
      exact hfit
    · exact y_starts hI.1 hoS hc hR ⟨hI.2.1, hI.2.2.1⟩ (fun D' hf hr => h D' (frM_MU hf) (InvM_MU hI hr hf))
  · refine ⟨-1, (S, rd, sh, tr, fl), hz, fun D Q hI h => ?_, fun D Q hI h => ?_⟩
    · refine v_in (tb' := t_X4_starts) (rk' := 1) rfl rfl rfl ?_
      refine v_go rfl ?_
      refine v_ca rfl ?_
      refine c_isCrier hI.1.2.1 (show S.2.1 ≤ 6 by omega) (fun z => absurd z hx) (fun _ => ?_)
      refine v_go rfl ?_
      refine v_bT rfl rfl ?_
      exact v_go rfl (v_rt rfl trivial (h _ (frC.refl _) hI))
    · refine v_in (tb' := t_X5_starts) (rk' := 1) rfl rfl rfl ?_
      refine v_go rfl ?_
      refine v_ca rfl ?_
      refine c_noCrier hI.1.2.1 (show S.2.1 ≤ 6 by omega) (fun z => absurd z hx) (fun _ => ?_)
      refine v_go rfl ?_
      refine v_bF rfl (by decide) ?_
      exact v_go rfl (v_rt rfl trivial (h _ (frM.refl _) hI))
