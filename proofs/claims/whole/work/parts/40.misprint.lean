/-! ===== misprint ===== -/
def p_W (S : SH) (f l x : Nat) : Nat := p_wet (setT S 0 l x) f S.1
theorem fr_set0 (S : SH) (l x i : Nat) : ∀ c, p_fr (setT S 0 l x) i c = p_fr S i c
  | 0 => rfl
  | c + 1 => by
    have e1 : p_fr (setT S 0 l x) i (c + 1) = p_nx (p_hb i ((setT S 0 l x).2.2.1 4 c) ((setT S 0 l x).2.2.1 3 c)) c (p_fr (setT S 0 l x) i c) := rfl
    rw [e1, fr_set0 S l x i c, setT_n (a := 4) (by omega), setT_n (a := 3) (by omega)]
    rfl
theorem dst_set0 (S : SH) (l x i : Nat) : p_dst (setT S 0 l x) i = p_dst S i := by
  unfold p_dst
  have e : p_fr (setT S 0 l x) i (setT S 0 l x).2.1 = p_fr S i S.2.1 := fr_set0 S l x i S.2.1
  rw [e, setT_n (a := 1) (by omega)]
  rfl
theorem give_mono (k : Nat) {a b : Nat} (h : a ≤ b) : p_give k a ≤ p_give k b := by
  unfold p_give
  split
  · omega
  · omega
  · omega
theorem amt_mono (S : SH) (l i : Nat) {x y : Nat} (h : x ≤ y) : p_amt (setT S 0 l x) i ≤ p_amt (setT S 0 l y) i := by
  unfold p_amt
  have e1 : p_by (setT S 0 l x) i = p_by S i := congrArg Prod.snd (fr_set0 S l x i S.2.1)
  have e2 : p_by (setT S 0 l y) i = p_by S i := congrArg Prod.snd (fr_set0 S l y i S.2.1)
  rw [e1, e2]
  cases p_by S i with
  | none => exact Nat.le_refl _
  | some c =>
    dsimp only
    rw [setT_n (S := S) (v := x) (a := 2) (by omega), setT_n (S := S) (v := y) (a := 2) (by omega)]
    apply give_mono
    by_cases e : i = l
    · rw [e, setT_s, setT_s]
      exact h
    · rw [setT_n (fun z => e z.2), setT_n (fun z => e z.2)]
      exact Nat.le_refl _
theorem wet_mono (S : SH) (f l : Nat) {x y : Nat} (h : x ≤ y) : ∀ n, p_wet (setT S 0 l x) f n ≤ p_wet (setT S 0 l y) f n
  | 0 => Nat.le_refl _
  | n + 1 => by
    have ih := wet_mono S f l h n
    have ha := amt_mono S l n h
    have e1 : p_wet (setT S 0 l x) f (n + 1) = p_wet (setT S 0 l x) f n + (if p_dst (setT S 0 l x) n = some f then p_amt (setT S 0 l x) n else 0) := rfl
    have e2 : p_wet (setT S 0 l y) f (n + 1) = p_wet (setT S 0 l y) f n + (if p_dst (setT S 0 l y) n = some f then p_amt (setT S 0 l y) n else 0) := rfl
    rw [e1, e2, dst_set0, dst_set0]
    split
    · omega
    · omega
theorem W_was (S : SH) (f l : Nat) : p_W S f l (S.2.2.1 0 l) = p_wet S f S.1 := by
  unfold p_W
  rw [setT_self]
theorem W_gt {S : SH} {f l x v : Nat} (hlt : p_wet S f S.1 < v) (h : v ≤ p_W S f l x) : S.2.2.1 0 l < x := by
  apply Decidable.byContradiction
  intro hn
  have h1 : p_W S f l x ≤ p_W S f l (S.2.2.1 0 l) := wet_mono S f l (by omega) S.1
  rw [W_was] at h1
  omega
def p_R (S : SH) (f v b l : Nat) : Prop := S.2.2.1 0 l + b ≤ 9 ∧ v ≤ p_W S f l (S.2.2.1 0 l + b)
def ms_is (S : SH) (f v : Nat) : Option (Nat × Nat) → Prop
  | none => ∀ b l, 1 ≤ b → l < S.1 → ¬ p_R S f v b l
  | some (b, l) => 1 ≤ b ∧ l < S.1 ∧ p_R S f v b l ∧ ∀ b' l', 1 ≤ b' → l' < S.1 → p_R S f v b' l' → b < b' ∨ (b = b' ∧ l ≤ l')
theorem ms_uni {S : SH} {f v : Nat} : ∀ {o o' : Option (Nat × Nat)}, ms_is S f v o → ms_is S f v o' → o = o'
  | none, none, _, _ => rfl
  | none, some (b, l), h, g => absurd g.2.2.1 (h b l g.1 g.2.1)
  | some (b, l), none, h, g => absurd h.2.2.1 (g b l h.1 h.2.1)
  | some (b, l), some (b', l'), h, g => by
    have h1 := h.2.2.2 b' l' g.1 g.2.1 g.2.2.1
    have h2 := g.2.2.2 b l h.1 h.2.1 h.2.2.1
    have e1 : b = b' := by omega
    have e2 : l = l' := by omega
    rw [e1, e2]
theorem ms_ex (S : SH) (f v : Nat) : ∃ o, ms_is S f v o := by
  by_cases h : ∃ b, 1 ≤ b ∧ ∃ l, l < S.1 ∧ p_R S f v b l
  · obtain ⟨b, ⟨hb, hl⟩, hm⟩ := pk_least (fun b => 1 ≤ b ∧ ∃ l, l < S.1 ∧ p_R S f v b l) h
    obtain ⟨l, ⟨hl1, hl2⟩, hml⟩ := pk_least (fun l => l < S.1 ∧ p_R S f v b l) hl
    refine ⟨some (b, l), hb, hl1, hl2, fun b' l' h1 h2 h3 => ?_⟩
    by_cases e : b' < b
    · exact absurd ⟨h1, l', h2, h3⟩ (hm b' e)
    · by_cases e2 : b = b'
      · subst e2
        refine Or.inr ⟨rfl, ?_⟩
        apply Decidable.byContradiction
        intro hn
        exact hml l' (by omega) ⟨h2, h3⟩
      · exact Or.inl (by omega)
  · exact ⟨none, fun b l h1 h2 h3 => h ⟨b, h1, l, h2, h3⟩⟩
def lsB : Option (Nat × Nat) → Int32
  | none => -9
  | some (b, _) => nI b
def lsL : Option (Nat × Nat) → Int32
  | none => -9
  | some (_, l) => nI l
theorem c_isWetBy {L d l b f v : Nat} {S : SH} {D : m_D} {Q : m_K} (hr1 : relC 1 D S) (hr8 : relC 8 D S) (ho : okS S) (hl : l < S.1) (hb : b ≤ 9) (hf4 : f < 4) (hv : v < 100) (h1 : ∀ D', m_fr z_FT D D' → relC 8 D' S → p_R S f v b l → Q (some (.int 1)) D') (h0 : ∀ D', m_fr z_FT D D' → relC 8 D' S → ¬ p_R S f v b l → Q (some (.int 0)) D') : m_call L (d + 5) 51 [.ref 0, .int (nI l), .int (nI b), .int (nI f), .int (nI v)] D Q := by
  have hn6 := ho.1
  have hin : vp_in (nI l) 6 := vp_in_nI (by omega) (by omega)
  have hcl : (nI l).toNatClampNeg = l := nI_clamp (by omega)
  have hin4 : vp_in (nI f) 4 := vp_in_nI (by omega) (by omega)
  have hcl4 : (nI f).toNatClampNeg = f := nI_clamp (by omega)
  have hd9 := (ho.2.2.1 l hl).1
  have e2 : D 2 l = nI (S.2.2.1 0 l) := (hr1.2.2.1 l hl).1
  refine v_in (tb' := t_X4_isWetBy) (rk' := 2) rfl rfl rfl ?_
  refine v_go rfl ?_
  refine v_sd rfl hin ?_
  rw [hcl, e2]
  refine v_go rfl ?_
  rw [nI_add]
  by_cases g : S.2.2.1 0 l + b ≤ 9
  · refine v_bT rfl (nI_le (b := 9) g (by omega)) ?_
    refine v_go rfl ?_
    rw [nI_add]
    refine v_sd rfl hin ?_
    rw [hcl]
    have hr2 : relC 8 (m_up D 9 l (nI (S.2.2.1 0 l + b))) (setT S 0 l (S.2.2.1 0 l + b)) := relC_setT (B := 8) (i := 0) (by omega) hr8
    have ho2 : okS (setT S 0 l (S.2.2.1 0 l + b)) := okS_setT ho ⟨fun _ => g, fun z => (by omega), fun z => (by omega), fun z => (by omega), fun z => (by omega)⟩
    refine v_go rfl ?_
    refine v_ca rfl ?_
    refine c_workOut (Or.inr rfl) hr2 ho2 (fun D3 hf3 hF => ?_)
    have hr3 := relC_c (fun i hi => hf3 _ (z_F_B (Or.inr rfl) i hi)) hr2
    have hr4 : relC 8 (m_up D3 9 l (nI (S.2.2.1 0 l))) (setT (setT S 0 l (S.2.2.1 0 l + b)) 0 l (S.2.2.1 0 l)) := relC_setT (B := 8) (i := 0) (by omega) hr3
    rw [setT_setT, setT_self] at hr4
    have hf0 : m_fr z_FT D D := m_fr.refl _ _
    have hf4 : m_fr z_FT D (m_up D3 9 l (nI (S.2.2.1 0 l))) := ((hf0.up (by simp)).trans (fF hf3)).up (by simp)
    have e20 : D3 20 f = nI (p_W S f l (S.2.2.1 0 l + b)) := hF.2.2.1 f (by omega)
    have h102 : p_W S f l (S.2.2.1 0 l + b) ≤ 102 := p_wet_102 ho2 f
    refine v_go rfl ?_
    refine v_sd rfl hin ?_
    rw [hcl]
    refine v_go rfl ?_
    refine v_sd rfl hin4 ?_
    rw [hcl4]
    have e20' : m_up D3 9 l (nI (S.2.2.1 0 l)) 20 f = nI (p_W S f l (S.2.2.1 0 l + b)) := e20
    rw [e20']
    refine v_go rfl ?_
    by_cases g2 : v ≤ p_W S f l (S.2.2.1 0 l + b)
    · refine v_bF rfl (nI_nlt g2 (by omega)) ?_
      exact v_go rfl (v_rt rfl (Or.inr rfl) (h1 _ hf4 hr4 ⟨g, g2⟩))
    · refine v_bT rfl (nI_lt (by omega) (by omega)) ?_
      exact v_go rfl (v_rt rfl (Or.inl rfl) (h0 _ hf4 hr4 (fun z => g2 z.2)))
  · refine v_bF rfl (nI_ge (a := 9) (by omega) (by omega)) ?_
    exact v_go rfl (v_rt rfl (Or.inl rfl) (h0 D (m_fr.refl _ _) hr8 (fun z => g z.1)))
theorem x_mis {L f v : Nat} {w : Int32} {o : Option (Nat × Nat)} {S : SH} {D : m_D} {Q : m_K} (hr : relC 1 D S) (ho : okS S) (hn : S.1 ≠ 0) (hf4 : f < 4) (hv : v < 100) (hw : vp_in w 2) (hms : ms_is S f v o) (hge : v ≤ p_wet S f S.1 → ∀ D', m_fr z_FT D D' → Q (some (.int (if w = 0 then 0 else -9))) D') (h : p_wet S f S.1 < v → ∀ D', m_fr z_FT D D' → Q (some (.int (if w = 0 then lsB o else lsL o))) D') : m_call L 8 50 [.ref 0, .int (nI f), .int (nI v), .int w] D Q := by
  have hn6 := ho.1
  have hin4 : vp_in (nI f) 4 := vp_in_nI (by omega) (by omega)
  have hcl4 : (nI f).toNatClampNeg = f := nI_clamp (by omega)
  have h102 := p_wet_102 ho f
  have r1 : D 1 0 = nI S.1 := hr.1
  have key : p_wet S f S.1 < v → ∀ (m b : Nat) (z : Option Value) (D1 : m_D), b + m = 10 → 1 ≤ b → m_fr z_FT D D1 → relC 8 D1 S → (∀ b' l', 1 ≤ b' → b' < b → l' < S.1 → ¬ p_R S f v b' l') → m_V L 7 Q t_X4_misprint 1 (86, [some (.ref 0), some (.int (nI f)), some (.int (nI v)), some (.int w), some (.int 0), some (.int (nI b)), z], [], D1) := by
    intro hlt m
    have h := h hlt
    induction m with
    | zero =>
      intro b z D1 hm hb1 hf hr8 hno
      have hm : b = 10 := by omega
      subst hm
      have e : o = none := ms_uni hms (show ms_is S f v none from fun b' l' q1 q2 q3 => hno b' l' q1 (by have := q3.1; omega) q2 q3)
      have h := h D1 hf
      rw [e] at h
      have h : Q (some (.int (-9))) D1 := by
        by_cases ew : w = 0
        · rw [if_pos ew] at h
          exact h
        · rw [if_neg ew] at h
          exact h
      refine v_go rfl ?_
      refine v_bT rfl (by decide) ?_
      exact v_go rfl (v_rt rfl trivial h)
    | succ m ih =>
      intro b z D1 hm hb1 hf hr8 hno
      have inner : ∀ (q l : Nat) (D2 : m_D), l + q = S.1 → m_fr z_FT D D2 → relC 8 D2 S → (∀ l', l' < l → ¬ p_R S f v b l') → m_V L 7 Q t_X4_misprint 1 (96, [some (.ref 0), some (.int (nI f)), some (.int (nI v)), some (.int w), some (.int 0), some (.int (nI b)), some (.int (nI l))], [], D2) := by
        intro q
        induction q with
        | zero =>
          intro l D2 hq hf2 hr2 hno2
          have hq : l = S.1 := by omega
          subst hq
          have r1 : D2 1 0 = nI S.1 := by rw [hf2 1 (by simp)]; exact r1
          have ih := ih (b + 1) (some (.int (nI S.1))) D2 (by omega) (by omega) hf2 hr2 (fun b' l' q1 q2 q3 => by
            by_cases e : b' = b
            · rw [e]
              exact hno2 l' q3
            · exact hno b' l' q1 (by omega) q3)
          rw [← nI_1] at ih
          refine v_go rfl ?_
          rw [r1]
          refine v_bT rfl (Int32.le_refl _) ?_
          exact v_run 2 rfl ih
        | succ q ih2 =>
          intro l D2 hq hf2 hr2 hno2
          have r1 : D2 1 0 = nI S.1 := by rw [hf2 1 (by simp)]; exact r1
          refine v_go rfl ?_
          rw [r1]
          refine v_bF rfl (nI_ge (by omega) (by omega)) ?_
          refine v_go rfl ?_
          refine v_ca rfl ?_
          refine c_isWetBy (relC_FT hf2 hr) hr2 ho (by omega) (by omega) hf4 hv (fun D3 hf3 hr3 hp => ?_) (fun D3 hf3 hr3 hp => ?_)
          · have e : o = some (b, l) := ms_uni hms (show ms_is S f v (some (b, l)) from ⟨hb1, by omega, hp, fun b' l' q1 q2 q3 => by
              by_cases e1 : b' < b
              · exact absurd q3 (hno b' l' q1 e1 q2)
              · by_cases e2 : b = b'
                · subst e2
                  refine Or.inr ⟨rfl, ?_⟩
                  apply Decidable.byContradiction
                  intro hlt
                  exact hno2 l' (by omega) q3
                · exact Or.inl (by omega)⟩)
            have h := h D3 (hf2.trans hf3)
            rw [e] at h
            refine v_go rfl ?_
            refine v_bF rfl (by decide) ?_
            refine v_go rfl ?_
            by_cases ew : w = 0
            · rw [if_pos ew] at h
              refine v_bF rfl (fun z => z ew) ?_
              exact v_go rfl (v_rt rfl trivial h)
            · rw [if_neg ew] at h
              refine v_bT rfl ew ?_
              exact v_go rfl (v_rt rfl trivial h)
          · have ih2 := ih2 (l + 1) D3 (by omega) (hf2.trans hf3) hr3 (fun l' hl' => by
              by_cases e : l' = l
              · rw [e]
                exact hp
              · exact hno2 l' (by omega))
            rw [← nI_1] at ih2
            refine v_go rfl ?_
            refine v_bT rfl rfl ?_
            exact v_run 2 rfl ih2
      refine v_go rfl ?_
      refine v_bF rfl (nI_nlt (b := b) (a := 9) (by omega) (by omega)) ?_
      exact v_run 2 rfl (inner S.1 0 D1 (by omega) hf hr8 (fun l' hl' => absurd hl' (by omega)))
  refine v_in (tb' := t_X4_misprint) (rk' := 1) rfl rfl rfl ?_
  refine v_go rfl ?_
  refine v_ca rfl ?_
  refine c_isWithin (n := 99) (by omega) (fun _ => ?_) (fun z => absurd (vp_in_nI (by omega) (by omega)) z)
  refine v_go rfl ?_
  refine v_bF rfl (by decide) ?_
  refine v_go rfl ?_
  refine v_ca rfl ?_
  refine c_isWithin (n := 1) (by omega) (fun _ => ?_) (fun z => absurd hw z)
  refine v_go rfl ?_
  refine v_bF rfl (by decide) ?_
  refine v_go rfl ?_
  refine v_ca rfl ?_
  refine c_refusalOf hr.1 hn6 (fun z => absurd hin4 z) (fun _ z => absurd z (by decide)) (fun _ _ z => absurd z hn) (fun _ _ _ => ?_)
  refine v_go rfl ?_
  refine v_bT rfl rfl ?_
  refine v_go rfl ?_
  refine v_ca rfl ?_
  refine c_workOut (Or.inl rfl) hr ho (fun D3 hf3 hF => ?_)
  have e20 : D3 20 f = nI (p_wet S f S.1) := hF.2.2.1 f (by omega)
  refine v_go rfl ?_
  refine v_sd rfl hin4 ?_
  rw [hcl4, e20]
  refine v_go rfl ?_
  by_cases g : v ≤ p_wet S f S.1
  · have h := hge g D3 (fF hf3)
    refine v_bF rfl (nI_nlt g (by omega)) ?_
    refine v_go rfl ?_
    by_cases ew : w = 0
    · rw [if_pos ew] at h
      refine v_bF rfl (fun z => z ew) ?_
      exact v_go rfl (v_rt rfl trivial h)
    · rw [if_neg ew] at h
      refine v_bT rfl ew ?_
      exact v_go rfl (v_rt rfl trivial h)
  · refine v_bT rfl (nI_lt (by omega) (by omega)) ?_
    refine v_go rfl ?_
    refine v_ca rfl ?_
    refine c_become (relC_FT (fF hf3) hr) ho (fun D4 hf4 hr4 => ?_)
    exact v_run 2 rfl (key (by omega) 9 1 none D4 (by omega) (by omega) ((fF hf3).trans (fT hf4)) hr4 (fun b' l' q1 q2 q3 => absurd q2 (by omega)))
theorem c_apart {L d a b : Nat} {D : m_D} {Q : m_K} (hab : b < a) (ha : a < 2 ^ 31) (h : Q (some (.int (nI (a - b)))) D) : m_call L (d + 1) 140 [.int (nI a), .int (nI b)] D Q := by
  refine v_in (tb' := t_X5_apart) (rk' := 1) rfl rfl rfl ?_
  rw [← pk_sub (by omega)] at h
  refine v_go rfl ?_
  refine v_bF rfl (nI_ge hab (by omega)) ?_
  exact v_go rfl (v_rt rfl trivial h)
def msJ (S : SH) (f v l x : Nat) : Option (Nat × Nat) → Prop
  | none => ∀ l' x', (l' < l ∨ (l' = l ∧ x' < x)) → x' ≤ 9 → l' < S.1 → ¬ v ≤ p_W S f l' x'
  | some (b, l1) => 1 ≤ b ∧ p_R S f v b l1 ∧ l1 < S.1 ∧ l1 ≤ l ∧ ∀ l' x', (l' < l ∨ (l' = l ∧ x' < x)) → x' ≤ 9 → l' < S.1 → v ≤ p_W S f l' x' → b < x' - S.2.2.1 0 l' ∨ (b = x' - S.2.2.1 0 l' ∧ l1 ≤ l')
theorem msJ_up {S : SH} {f v l : Nat} : ∀ {c : Option (Nat × Nat)}, msJ S f v l 10 c → msJ S f v (l + 1) 0 c
  | none, h => fun l' x' q1 q2 q3 => h l' x' (by omega) q2 q3
  | some (b, l1), h => ⟨h.1, h.2.1, h.2.2.1, by have := h.2.2.2.1; omega, fun l' x' q1 q2 q3 q4 => h.2.2.2.2 l' x' (by omega) q2 q3 q4⟩
theorem msJ_no {S : SH} {f v l x : Nat} (hx : ¬ v ≤ p_W S f l x) : ∀ {c : Option (Nat × Nat)}, msJ S f v l x c → msJ S f v l (x + 1) c
  | none, h => fun l' x' q1 q2 q3 q4 => by
    by_cases e : l' = l ∧ x' = x
    · rw [e.1, e.2] at q4
      exact hx q4
    · exact h l' x' (by omega) q2 q3 q4
  | some (b, l1), h => ⟨h.1, h.2.1, h.2.2.1, h.2.2.2.1, fun l' x' q1 q2 q3 q4 => by
    by_cases e : l' = l ∧ x' = x
    · rw [e.1, e.2] at q4
      exact absurd q4 hx
    · exact h.2.2.2.2 l' x' (by omega) q2 q3 q4⟩
theorem msJ_worse {S : SH} {f v l x b l1 : Nat} (hx : b ≤ x - S.2.2.1 0 l) (h : msJ S f v l x (some (b, l1))) : msJ S f v l (x + 1) (some (b, l1)) := ⟨h.1, h.2.1, h.2.2.1, h.2.2.2.1, fun l' x' q1 q2 q3 q4 => by
  by_cases e : l' = l ∧ x' = x
  · have h1 := h.2.2.2.1
    rw [e.1, e.2]
    omega
  · exact h.2.2.2.2 l' x' (by omega) q2 q3 q4⟩
theorem msJ_new {S : SH} {f v l x : Nat} (hl : l < S.1) (hx9 : x ≤ 9) (hgt : S.2.2.1 0 l < x) (hx : v ≤ p_W S f l x) : ∀ {c : Option (Nat × Nat)}, msJ S f v l x c → (∀ b l1, c = some (b, l1) → x - S.2.2.1 0 l < b) → msJ S f v l (x + 1) (some (x - S.2.2.1 0 l, l))
  | none, h, _ => ⟨by omega, ⟨by omega, by rw [show S.2.2.1 0 l + (x - S.2.2.1 0 l) = x by omega]; exact hx⟩, hl, Nat.le_refl _, fun l' x' q1 q2 q3 q4 => by
    by_cases e : l' = l ∧ x' = x
    · rw [e.1, e.2]
      exact Or.inr ⟨rfl, Nat.le_refl _⟩
    · exact absurd q4 (h l' x' (by omega) q2 q3)⟩
  | some (b, l1), h, hb => ⟨by omega, ⟨by omega, by rw [show S.2.2.1 0 l + (x - S.2.2.1 0 l) = x by omega]; exact hx⟩, hl, Nat.le_refl _, fun l' x' q1 q2 q3 q4 => by
    by_cases e : l' = l ∧ x' = x
    · rw [e.1, e.2]
      exact Or.inr ⟨rfl, Nat.le_refl _⟩
    · have h1 := h.2.2.2.2 l' x' (by omega) q2 q3 q4
      have h2 := hb b l1 rfl
      exact Or.inl (by omega)⟩
theorem msJ_end {S : SH} {f v : Nat} : ∀ {c : Option (Nat × Nat)}, msJ S f v S.1 0 c → ms_is S f v c
  | none, h => fun b l q1 q2 q3 => h l (S.2.2.1 0 l + b) (Or.inl q2) q3.1 q2 q3.2
  | some (b, l1), h => ⟨h.1, h.2.2.1, h.2.1, fun b' l' q1 q2 q3 => by
    have h1 := h.2.2.2.2 l' (S.2.2.1 0 l' + b') (Or.inl q2) q3.1 q2 q3.2
    omega⟩
theorem y_mis {L f v : Nat} {w : Int32} {o : Option (Nat × Nat)} {S : SH} {D : m_D} {Q : m_K} (hr : relM D S) (ho : okS S) (hn : S.1 ≠ 0) (hk : S.2.1 ≠ 0) (hf4 : f < 4) (hv : v < 100) (hw : vp_in w 2) (hms : ms_is S f v o) (hge : v ≤ p_wet S f S.1 → ∀ D', m_fM z_MT [22] D D' → relM D' S → Q (some (.int (if w = 0 then 0 else -9))) D') (h : p_wet S f S.1 < v → ∀ D', m_fM z_MT [22] D D' → relM D' S → Q (some (.int (if w = 0 then lsB o else lsL o))) D') : m_call L 8 141 [.ref 34, .int (nI f), .int (nI v), .int w] D Q := by
  have hn6 := ho.1
  have hk3 := ho.2.1
  have hin4 : vp_in (nI f) 4 := vp_in_nI (by omega) (by omega)
  have h102 := p_wet_102 ho f
  have r1 : D 34 1 = nI S.1 := hr.1
  have r2 : D 34 2 = nI S.2.1 := hr.2.1
  have key : p_wet S f S.1 < v → ∀ (m l : Nat) (c : Option (Nat × Nat)) (t : m_Lc) (D1 : m_D), l + m = S.1 → (t = [none, none, none] ∨ ∃ (a b : Int32) (z : Option Value), t = [some (.int a), some (.int b), z]) → m_fM z_MT [22] D D1 → relM D1 S → msJ S f v l 0 c → m_V L 7 Q t_X5_misprint 1 (75, some (.ref 34) :: some (.int (nI f)) :: some (.int (nI v)) :: some (.int w) :: some (.int (lsB c)) :: some (.int (lsL c)) :: some (.int (nI l)) :: t, [], D1) := by
    intro hlt m
    have h := h hlt
    induction m with
    | zero =>
      intro l c t D1 hm ht hf hr1 hJ
      have hm : l = S.1 := by omega
      subst hm
      have e : o = c := ms_uni hms (msJ_end hJ)
      subst e
      have h := h D1 hf hr1
      have r1 : D1 34 1 = nI S.1 := hr1.1
      refine v_go rfl ?_
      rw [r1]
      refine v_bT rfl (Int32.le_refl _) ?_
      refine v_go rfl ?_
      by_cases ew : w = 0
      · rw [if_pos ew] at h
        refine v_bF rfl (fun z => z ew) ?_
        exact v_go rfl (v_rt rfl trivial h)
      · rw [if_neg ew] at h
        refine v_bT rfl ew ?_
        exact v_go rfl (v_rt rfl trivial h)
    | succ m ih =>
      intro l c t D1 hm ht hf hr1 hJ
      have hl : l < S.1 := by omega
      have r1 : D1 34 1 = nI S.1 := hr1.1
      have hin : vp_in (nI l) 6 := vp_in_nI (by omega) (by omega)
      have hcl : (nI l).toNatClampNeg = l := nI_clamp (by omega)
      have e35 : D1 35 l = nI (S.2.2.1 0 l) := (hr1.2.2.1 l hl).1
      have hd9 := (ho.2.2.1 l hl).1
      have inner : ∀ (q x : Nat) (c : Option (Nat × Nat)) (z : Option Value) (D2 : m_D), x + q = 10 → m_fM z_MT [22] D D2 → trU 0 l S D2 → msJ S f v l x c → m_V L 7 Q t_X5_misprint 1 (96, [some (.ref 34), some (.int (nI f)), some (.int (nI v)), some (.int w), some (.int (lsB c)), some (.int (lsL c)), some (.int (nI l)), some (.int (nI (S.2.2.1 0 l))), some (.int (nI x)), z], [], D2) := by
        intro q
        induction q with
        | zero =>
          intro x c z D2 hq hf2 ht2 hJ2
          have hq : x = 10 := by omega
          subst hq
          have hr3 : relM (m_up D2 35 l (nI (S.2.2.1 0 l))) (setT S 0 l (S.2.2.1 0 l)) := trU_up (i := 0) (by omega) ht2 _
          rw [setT_self] at hr3
          refine v_go rfl ?_
          refine v_bT rfl (by decide) ?_
          refine v_go rfl ?_
          refine v_sd rfl hin ?_
          rw [hcl]
          have ih := ih (l + 1) c [some (.int (nI (S.2.2.1 0 l))), some (.int (nI 10)), z] (m_up D2 35 l (nI (S.2.2.1 0 l))) (by omega) (Or.inr ⟨_, _, z, rfl⟩) (hf2.up (by simp) (by decide)) hr3 (msJ_up hJ2)
          rw [← nI_1] at ih
          exact v_run 2 rfl ih
        | succ q ih2 =>
          intro x c z D2 hq hf2 ht2 hJ2
          have hr3 : relM (m_up D2 35 l (nI x)) (setT S 0 l x) := trU_up (i := 0) (by omega) ht2 x
          have ho3 : okS (setT S 0 l x) := okS_setT ho ⟨fun _ => (by omega), fun z => (by omega), fun z => (by omega), fun z => (by omega), fun z => (by omega)⟩
          have hf3 : m_fM z_MT [22] D (m_up D2 35 l (nI x)) := hf2.up (by simp) (by decide)
          have hW : p_W S f l x ≤ 102 := p_wet_102 ho3 f
          refine v_go rfl ?_
          refine v_bF rfl (nI_nlt (a := 9) (b := x) (by omega) (by omega)) ?_
          refine v_go rfl ?_
          refine v_sd rfl hin ?_
          rw [hcl]
          refine v_go rfl ?_
          refine v_ca rfl ?_
          refine c_wetNow hr3 ho3 hf4 (fun D4 hf4 hF => ?_)
          have hfa := hf3.trans (mtR hf4)
          have ht4 : trU 0 l S D4 := trU_R hf4 hr3
          have no : msJ S f v l (x + 1) c → m_V L 7 Q t_X5_misprint 1 (142, [some (.ref 34), some (.int (nI f)), some (.int (nI v)), some (.int w), some (.int (lsB c)), some (.int (lsL c)), some (.int (nI l)), some (.int (nI (S.2.2.1 0 l))), some (.int (nI x)), z], [], D4) := by
            intro hJ3
            have ih2 := ih2 (x + 1) c (some (.int 0)) D4 (by omega) hfa ht4 hJ3
            rw [← nI_1] at ih2
            refine v_go rfl ?_
            refine v_bT rfl rfl ?_
            refine v_go rfl ?_
            refine v_bT rfl rfl ?_
            exact v_run 4 rfl ih2
          have yes : S.2.2.1 0 l < x → msJ S f v l (x + 1) (some (x - S.2.2.1 0 l, l)) → m_V L 7 Q t_X5_misprint 1 (138, [some (.ref 34), some (.int (nI f)), some (.int (nI v)), some (.int w), some (.int (lsB c)), some (.int (lsL c)), some (.int (nI l)), some (.int (nI (S.2.2.1 0 l))), some (.int (nI x)), z], [], D4) := by
            intro hgt hJ3
            have ih2 := ih2 (x + 1) (some (x - S.2.2.1 0 l, l)) (some (.int 1)) D4 (by omega) hfa ht4 hJ3
            rw [← nI_1] at ih2
            refine v_go rfl ?_
            refine v_bF rfl (by decide) ?_
            refine v_go rfl ?_
            refine v_bF rfl (by decide) ?_
            refine v_go rfl ?_
            refine v_ca rfl ?_
            refine c_apart hgt (by omega) ?_
            exact v_run 4 rfl ih2
          refine v_go rfl ?_
          by_cases g : v ≤ p_W S f l x
          · have hgt := W_gt hlt g
            refine v_bF rfl (nI_nlt (a := p_W S f l x) g (by omega)) ?_
            refine v_go rfl ?_
            match c, hJ2, no, yes with
            | none, hJ2, no, yes =>
              refine v_bT rfl (by decide) ?_
              exact yes hgt (msJ_new hl (by omega) hgt g hJ2 (fun b l1 e => by cases e))
            | some (b, l1), hJ2, no, yes =>
              have hb9 := hJ2.2.1.1
              refine v_bF rfl (nI_pos (n := b) (by omega)) ?_
              refine v_go rfl ?_
              refine v_ca rfl ?_
              refine c_apart hgt (by omega) ?_
              refine v_go rfl ?_
              by_cases g2 : b ≤ x - S.2.2.1 0 l
              · refine v_bT rfl (nI_le (a := b) g2 (by omega)) ?_
                exact no (msJ_worse g2 hJ2)
              · refine v_bF rfl (nI_ge (b := b) (by omega) (by omega)) ?_
                exact yes hgt (msJ_new hl (by omega) hgt g hJ2 (fun b' l1' e => by
                  cases e
                  omega))
          · refine v_bT rfl (nI_lt (a := p_W S f l x) (by omega) (by omega)) ?_
            exact no (msJ_no g hJ2)
      rcases ht with rfl | ⟨a, b, z, rfl⟩
      · refine v_go rfl ?_
        rw [r1]
        refine v_bF rfl (nI_ge (by omega) (by omega)) ?_
        refine v_go rfl ?_
        refine v_sd rfl hin ?_
        rw [hcl, e35]
        exact v_run 3 rfl (inner 10 0 c none D1 (by omega) hf (trU_0 hr1) hJ)
      · refine v_go rfl ?_
        rw [r1]
        refine v_bF rfl (nI_ge (by omega) (by omega)) ?_
        refine v_go rfl ?_
        refine v_sd rfl hin ?_
        rw [hcl, e35]
        exact v_run 3 rfl (inner 10 0 c z D1 (by omega) hf (trU_0 hr1) hJ)
  refine v_in (tb' := t_X5_misprint) (rk' := 1) rfl rfl rfl ?_
  refine v_go rfl ?_
  refine v_ca rfl ?_
  refine c_noField (fun _ => ?_) (fun z => absurd hin4 z)
  refine v_go rfl ?_
  refine v_bT rfl rfl ?_
  refine v_go rfl ?_
  refine v_ca rfl ?_
  refine c_in (fun _ _ => ?_) (fun z => absurd ((in_iff (n := 100) (by decide)).mpr (vp_in_nI (by omega) (by omega))) z)
  refine v_go rfl ?_
  refine v_bF rfl (by decide) ?_
  refine v_go rfl ?_
  refine v_ca rfl ?_
  refine c_in (fun _ _ => ?_) (fun z => absurd ((in_iff (n := 2) (by decide)).mpr hw) z)
  refine v_go rfl ?_
  refine v_bT rfl (by decide) ?_
  refine v_go rfl ?_
  rw [r2]
  refine v_bT rfl (nI_ne0 (by omega) (by omega)) ?_
  refine v_go rfl ?_
  refine v_ca rfl ?_
  refine c_wetNow hr ho hf4 (fun D3 hf3 hF => ?_)
  have hr3 := relM_keep hf3 (by decide) (by decide) hr
  refine v_go rfl ?_
  by_cases g : v ≤ p_wet S f S.1
  · have h := hge g D3 (mtR hf3) hr3
    refine v_bF rfl (nI_nlt g (by omega)) ?_
    refine v_go rfl ?_
    by_cases ew : w = 0
    · rw [if_pos ew] at h
      refine v_bF rfl (fun z => z ew) ?_
      exact v_go rfl (v_rt rfl trivial h)
    · rw [if_neg ew] at h
      refine v_bT rfl ew ?_
      exact v_go rfl (v_rt rfl trivial h)
  · refine v_bT rfl (nI_lt (by omega) (by omega)) ?_
    exact v_run 6 rfl (key (by omega) S.1 0 none _ D3 (by omega) (Or.inl rfl) (mtR hf3) hr3 (fun l' x' q1 q2 q3 => absurd q1 (by omega)))
theorem s_misprint (x y w : Int32) : StepI 50 141 [.int x, .int y, .int w] := by
  intro L Z hz
  obtain ⟨S, rd, sh, tr, fl⟩ := Z
  have hoS : okS S := hz.1
  have hn6 : S.1 ≤ 6 := hoS.1
  have hnk : S.1 = 0 ↔ S.2.1 = 0 := hz.2.1
  have hk3 : S.2.1 ≤ 3 := hoS.2.1
  by_cases hx : vp_in x 4
  · by_cases hyw : vp_in y 100 ∧ vp_in w 2
    · obtain ⟨hy, hw⟩ := hyw
      by_cases hn : S.1 = 0
      · have hk : S.2.1 = 0 := hnk.mp hn
        refine ⟨-3, (S, rd, sh, tr, fl), hz, fun D Q hI h => ?_, fun D Q hI h => ?_⟩
        · refine v_in (tb' := t_X4_misprint) (rk' := 1) rfl rfl rfl ?_
          refine v_go rfl ?_
          refine v_ca rfl ?_
          refine c_isWithin (n := 99) (by omega) (fun _ => ?_) (fun z => absurd hy z)
          refine v_go rfl ?_
          refine v_bF rfl (by decide) ?_
          refine v_go rfl ?_
          refine v_ca rfl ?_
          refine c_isWithin (n := 1) (by omega) (fun _ => ?_) (fun z => absurd hw z)
          refine v_go rfl ?_
          refine v_bF rfl (by decide) ?_
          refine v_go rfl ?_
          refine v_ca rfl ?_
          refine c_refusalOf hI.1.1 hn6 (fun z => absurd hx z) (fun _ z => absurd z (by decide)) (fun _ _ _ => ?_) (fun _ _ z => absurd hn z)
          refine v_go rfl ?_
          refine v_bF rfl (by decide) ?_
          exact v_go rfl (v_rt rfl trivial (h _ (frC.refl _) hI))
        · have r2 : D 34 2 = nI 0 := by rw [← hk]; exact hI.1.2.1
          refine v_in (tb' := t_X5_misprint) (rk' := 1) rfl rfl rfl ?_
          refine v_go rfl ?_
          refine v_ca rfl ?_
          refine c_noField (fun _ => ?_) (fun z => absurd hx z)
          refine v_go rfl ?_
          refine v_bT rfl rfl ?_
          refine v_go rfl ?_
          refine v_ca rfl ?_
          refine c_in (fun _ _ => ?_) (fun z => absurd ((in_iff (n := 100) (by decide)).mpr hy) z)
          refine v_go rfl ?_
          refine v_bF rfl (by decide) ?_
          refine v_go rfl ?_
          refine v_ca rfl ?_
          refine c_in (fun _ _ => ?_) (fun z => absurd ((in_iff (n := 2) (by decide)).mpr hw) z)
          refine v_go rfl ?_
          refine v_bT rfl (by decide) ?_
          refine v_go rfl ?_
          rw [r2]
          refine v_bF rfl (fun z => z rfl) ?_
          exact v_go rfl (v_rt rfl trivial (h _ (frM.refl _) hI))
      · have hk : S.2.1 ≠ 0 := fun z => hn (hnk.mpr z)
        obtain ⟨f, hf, rfl⟩ := vp_in_of hx (by omega)
        obtain ⟨v, hv, rfl⟩ := vp_in_of hy (by omega)
        obtain ⟨o, hms⟩ := ms_ex S f v
        by_cases g : v ≤ p_wet S f S.1
        · refine ⟨if w = 0 then 0 else -9, (S, rd, sh, tr, fl), hz, fun D Q hI h => ?_, fun D Q hI h => ?_⟩
          · exact x_mis hI.1 hoS hn hf hv hw hms (fun _ D' hf => h D' (frC_FT hf) (InvC_FT hI hf)) (fun z => absurd g (Nat.not_le_of_lt z))
          · exact y_mis hI.1 hoS hn hk hf hv hw hms (fun _ D' hf hr => h D' (frM_MT hf) (InvM_MT hI hr hf)) (fun z => absurd g (Nat.not_le_of_lt z))
        · refine ⟨if w = 0 then lsB o else lsL o, (S, rd, sh, tr, fl), hz, fun D Q hI h => ?_, fun D Q hI h => ?_⟩
          · exact x_mis hI.1 hoS hn hf hv hw hms (fun z => absurd z g) (fun _ D' hf => h D' (frC_FT hf) (InvC_FT hI hf))
          · exact y_mis hI.1 hoS hn hk hf hv hw hms (fun z => absurd z g) (fun _ D' hf hr => h D' (frM_MT hf) (InvM_MT hI hr hf))
    · refine ⟨-2, (S, rd, sh, tr, fl), hz, fun D Q hI h => ?_, fun D Q hI h => ?_⟩
      · have h := h _ (frC.refl _) hI
        have tail : m_V L 7 Q t_X4_misprint 1 (24, [some (.ref 0), some (.int x), some (.int y), some (.int w), none, none, none], [.int 0, .int x, .ref 0], D) := by
          refine v_ca rfl ?_
          refine c_refusalOf hI.1.1 hn6 (fun z => absurd hx z) (fun _ _ => ?_) (fun _ z _ => absurd rfl z) (fun _ z _ => absurd rfl z)
          refine v_go rfl ?_
          refine v_bF rfl (by decide) ?_
          exact v_go rfl (v_rt rfl trivial h)
        refine v_in (tb' := t_X4_misprint) (rk' := 1) rfl rfl rfl ?_
        refine v_go rfl ?_
        refine v_ca rfl ?_
        refine c_isWithin (n := 99) (by omega) (fun z1 => ?_) (fun _ => ?_)
        · refine v_go rfl ?_
          refine v_bF rfl (by decide) ?_
          refine v_go rfl ?_
          refine v_ca rfl ?_
          refine c_isWithin (n := 1) (by omega) (fun z2 => absurd ⟨z1, z2⟩ hyw) (fun _ => ?_)
          refine v_go rfl ?_
          refine v_bT rfl rfl ?_
          exact v_go rfl tail
        · refine v_go rfl ?_
          refine v_bT rfl rfl ?_
          exact v_go rfl tail
      · have h := h _ (frM.refl _) hI
        refine v_in (tb' := t_X5_misprint) (rk' := 1) rfl rfl rfl ?_
        refine v_go rfl ?_
        refine v_ca rfl ?_
        refine c_noField (fun _ => ?_) (fun z => absurd hx z)
        refine v_go rfl ?_
        refine v_bT rfl rfl ?_
        refine v_go rfl ?_
        refine v_ca rfl ?_
        refine c_in (fun p1 p2 => ?_) (fun _ => ?_)
        · have z1 := (in_iff (n := 100) (by decide)).mp ⟨p1, p2⟩
          refine v_go rfl ?_
          refine v_bF rfl (by decide) ?_
          refine v_go rfl ?_
          refine v_ca rfl ?_
          refine c_in (fun p1 p2 => absurd ⟨z1, (in_iff (n := 2) (by decide)).mp ⟨p1, p2⟩⟩ hyw) (fun _ => ?_)
          refine v_go rfl ?_
          refine v_bF rfl (by decide) ?_
          exact v_go rfl (v_rt rfl trivial h)
        · refine v_go rfl ?_
          refine v_bT rfl rfl ?_
          exact v_go rfl (v_rt rfl trivial h)
  · refine ⟨-1, (S, rd, sh, tr, fl), hz, fun D Q hI h => ?_, fun D Q hI h => ?_⟩
    · have h := h _ (frC.refl _) hI
      have tail : ∀ b : Int32, m_V L 7 Q t_X4_misprint 1 (24, [some (.ref 0), some (.int x), some (.int y), some (.int w), none, none, none], [.int b, .int x, .ref 0], D) := by
        intro b
        refine v_ca rfl ?_
        refine c_refusalOf hI.1.1 hn6 (fun _ => ?_) (fun z _ => absurd z hx) (fun z _ _ => absurd z hx) (fun z _ _ => absurd z hx)
        refine v_go rfl ?_
        refine v_bF rfl (by decide) ?_
        exact v_go rfl (v_rt rfl trivial h)
      refine v_in (tb' := t_X4_misprint) (rk' := 1) rfl rfl rfl ?_
      refine v_go rfl ?_
      refine v_ca rfl ?_
      refine c_isWithin (n := 99) (by omega) (fun z1 => ?_) (fun _ => ?_)
      · refine v_go rfl ?_
        refine v_bF rfl (by decide) ?_
        refine v_go rfl ?_
        refine v_ca rfl ?_
        refine c_isWithin (n := 1) (by omega) (fun z2 => ?_) (fun _ => ?_)
        · refine v_go rfl ?_
          refine v_bF rfl (by decide) ?_
          exact v_go rfl (tail 1)
        · refine v_go rfl ?_
          refine v_bT rfl rfl ?_
          exact v_go rfl (tail 0)
      · refine v_go rfl ?_
        refine v_bT rfl rfl ?_
        exact v_go rfl (tail 0)
    · refine v_in (tb' := t_X5_misprint) (rk' := 1) rfl rfl rfl ?_
      refine v_go rfl ?_
      refine v_ca rfl ?_
      refine c_noField (fun z => absurd z hx) (fun _ => ?_)
      refine v_go rfl ?_
      refine v_bF rfl (by decide) ?_
      exact v_go rfl (v_rt rfl trivial (h _ (frM.refl _) hI))
