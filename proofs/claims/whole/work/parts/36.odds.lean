/-! ===== odds ===== -/
theorem c_common {L d u a : Nat} {D : m_D} {Q : m_K} (h0 : a ≠ 0) (hu : u < 2 ^ 31) (ha : a < 2 ^ 31) (h : Q (some (.int (nI (Nat.gcd u a)))) D) : m_call L (d + 1) 64 [.int (nI u), .int (nI a)] D Q := by
  have hg : 0 < Nat.gcd u a := Nat.gcd_pos_of_pos_right _ (by omega)
  have key : ∀ e, Nat.gcd u a ≤ e → e ≤ a → m_V L d Q t_X4_commonPart 1 (2, [some (.int (nI u)), some (.int (nI a)), some (.int (nI e))], [], D) := by
    intro e
    induction e with
    | zero =>
      intro h1
      omega
    | succ e ih =>
      intro h1 h2
      by_cases e0 : e = 0
      · subst e0
        have e1 : Nat.gcd u a = 1 := by omega
        rw [e1] at h
        refine v_go rfl ?_
        refine v_bT rfl (Int32.le_refl _) ?_
        exact v_go rfl (v_rt rfl trivial h)
      · have hne : ¬ nI (e + 1) = 0 := nI_ne0 (by omega) (by omega)
        have er : nI u - nI u / nI (e + 1) * nI (e + 1) = nI (u % (e + 1)) := pk_rem (by omega) (by omega) (by omega)
        have er2 : nI a - nI a / nI (e + 1) * nI (e + 1) = nI (a % (e + 1)) := pk_rem (by omega) (by omega) (by omega)
        have hm1 : u % (e + 1) < e + 1 := Nat.mod_lt _ (by omega)
        have hm2 : a % (e + 1) < e + 1 := Nat.mod_lt _ (by omega)
        have no : ¬ Nat.gcd u a = e + 1 → m_V L d Q t_X4_commonPart 1 (21, [some (.int (nI u)), some (.int (nI a)), some (.int (nI (e + 1)))], [], D) := by
          intro hne
          have ih := ih (by omega) (by omega)
          rw [← pk_m1 e] at ih
          exact v_run 2 rfl ih
        refine v_go rfl ?_
        refine v_bF rfl (nI_ge (a := 1) (by omega) (by omega)) ?_
        refine v_go rfl ?_
        refine v_sd rfl hne ?_
        rw [er]
        by_cases d1 : u % (e + 1) = 0
        · rw [d1]
          refine v_bF rfl (fun z => z rfl) ?_
          refine v_go rfl ?_
          refine v_sd rfl hne ?_
          rw [er2]
          by_cases d2 : a % (e + 1) = 0
          · rw [d2]
            refine v_bF rfl (fun z => z rfl) ?_
            have h5 : Nat.gcd u a = e + 1 := by
              have h6 : e + 1 ∣ Nat.gcd u a := Nat.dvd_gcd (Nat.dvd_of_mod_eq_zero d1) (Nat.dvd_of_mod_eq_zero d2)
              have := Nat.le_of_dvd hg h6
              omega
            rw [h5] at h
            exact v_go rfl (v_rt rfl trivial h)
          · refine v_bT rfl (nI_ne0 (by omega) (by omega)) ?_
            refine no (fun z => d2 ?_)
            have := Nat.gcd_dvd_right u a
            rw [z] at this
            exact Nat.mod_eq_zero_of_dvd this
        · refine v_bT rfl (nI_ne0 (by omega) (by omega)) ?_
          refine no (fun z => d1 ?_)
          have := Nat.gcd_dvd_left u a
          rw [z] at this
          exact Nat.mod_eq_zero_of_dvd this
  refine v_in (tb' := t_X4_commonPart) (rk' := 1) rfl rfl rfl ?_
  exact v_run 2 rfl (key a (Nat.le_of_dvd (by omega) (Nat.gcd_dvd_right u a)) (Nat.le_refl _))
theorem c_share {L d u a : Nat} {w : Int32} {D : m_D} {Q : m_K} (h0 : a ≠ 0) (hu : u < 2 ^ 31) (ha : a < 2 ^ 31) (h : Q (some (.long (lN ((if w = 0 then u else a) / Nat.gcd u a)))) D) : m_call L (d + 1) 93 [.long (lN u), .long (lN a), .int w] D Q := by
  have hg : 0 < Nat.gcd u a := Nat.gcd_pos_of_pos_right _ (by omega)
  have hg2 : Nat.gcd u a ≤ a := Nat.le_of_dvd (by omega) (Nat.gcd_dvd_right u a)
  have key : ∀ (n x y : Nat) (r : Option Value), y ≤ n → x < 2 ^ 31 → y < 2 ^ 31 → Nat.gcd x y = Nat.gcd u a → m_V L d Q t_X5_share 3 (6, [some (.long (lN u)), none, some (.long (lN a)), none, some (.int w), some (.long (lN x)), none, some (.long (lN y)), none, r, none], [], D) := by
    intro n
    induction n with
    | zero =>
      intro x y r hy hx hy2 hgc
      have hy : y = 0 := by omega
      subst hy
      rw [Nat.gcd_zero_right] at hgc
      subst hgc
      refine v_go rfl ?_
      refine v_bT rfl ((lg_cmp_eq _ _).mpr rfl) ?_
      refine v_go rfl ?_
      have hz : ¬ lN (Nat.gcd u a) = 0 := fun z => by
        have := (pk_lEQ (b := 0) (by omega) (by omega)).mp z
        omega
      by_cases e : w = 0
      · rw [if_pos e, ← pk_lDiv (by omega) (by omega) (by omega)] at h
        refine v_bF rfl (fun z => z e) ?_
        refine v_go rfl ?_
        refine v_sd rfl hz ?_
        exact v_rt rfl trivial h
      · rw [if_neg e, ← pk_lDiv (by omega) (by omega) (by omega)] at h
        refine v_bT rfl e ?_
        refine v_go rfl ?_
        refine v_sd rfl hz ?_
        exact v_rt rfl trivial h
    | succ n ih =>
      intro x y r hy hx hy2 hgc
      by_cases y0 : y = 0
      · exact ih x y r (by omega) hx hy2 hgc
      · have hm : x % y < y := Nat.mod_lt _ (by omega)
        have ih := ih y (x % y) (some (.long (lN (x % y)))) (by omega) hy2 (by omega) (by rw [Nat.gcd_comm, ← Nat.gcd_rec, Nat.gcd_comm]; exact hgc)
        have hz : ¬ lN y = 0 := fun z => y0 ((pk_lEQ (b := 0) (by omega) (by omega)).mp z)
        refine v_go rfl ?_
        refine v_bF rfl (fun z => hz ((lg_cmp_eq _ _).mp z)) ?_
        refine v_go rfl ?_
        refine v_sd rfl hz ?_
        rw [pk_lRem (by omega) (by omega) (by omega)]
        exact v_run 6 rfl ih
  refine v_in (tb' := t_X5_share) (rk' := 3) rfl rfl rfl ?_
  exact v_run 4 rfl (key a u a none (Nat.le_refl _) hu ha rfl)
theorem p_cnt_le (P : Nat → Bool) : ∀ n, p_cnt P n ≤ n
  | 0 => Nat.le_refl _
  | n + 1 => by
    have h := p_cnt_le P n
    have e : p_cnt P (n + 1) = p_cnt P n + (if P n then 1 else 0) := rfl
    rw [e]
    split <;> omega
def p_en (S : SH) (f v b : Nat) : Bool := decide (v ≤ p_wet (begS S b) f S.1)
def sp_odds (S : SH) (f v : Nat) (w : Int32) : Int64 := lN ((if w = 0 then p_cnt (p_en S f v) (p_nb S) else p_nb S) / Nat.gcd (p_cnt (p_en S f v) (p_nb S)) (p_nb S))
theorem x_odds {L f v : Nat} {w : Int32} {S : SH} {D : m_D} {Q : m_K} (hr : relC 1 D S) (ho : okS S) (hf4 : f < 4) (hv : v ≤ 120) (hw : vp_in w 2) (hn : S.1 ≠ 0) (h : ∀ D', m_fr z_FT D D' → Q (some (.long (sp_odds S f v w))) D') : m_call L 8 63 [.ref 0, .int (nI f), .int (nI v), .int w] D Q := by
  have hn6 := ho.1
  have hnb := p_nb_lt ho
  have hnb0 := p_nb_0 hn
  have hcn := p_cnt_le (p_en S f v) (p_nb S)
  have hin : vp_in (nI f) 4 := vp_in_nI hf4 (by omega)
  have hcl : (nI f).toNatClampNeg = f := nI_clamp (by omega)
  have fin : ∀ (D1 : m_D), m_fr z_FT D D1 → m_V L 7 Q t_X4_odds 3 (116, [some (.ref 0), some (.int (nI f)), some (.int (nI v)), some (.int w), some (.int (nI (p_nb S))), some (.int (nI (p_cnt (p_en S f v) (p_nb S)))), some (.int (nI (p_nb S)))], [], D1) := by
    intro D1 hf
    have h := h D1 hf
    unfold sp_odds at h
    have hg : 0 < Nat.gcd (p_cnt (p_en S f v) (p_nb S)) (p_nb S) := Nat.gcd_pos_of_pos_right _ (by omega)
    have hg2 := Nat.le_of_dvd (by omega) (Nat.gcd_dvd_right (p_cnt (p_en S f v) (p_nb S)) (p_nb S))
    refine v_go rfl ?_
    refine v_ca rfl ?_
    refine c_common hnb0 (by omega) (by omega) ?_
    refine v_go rfl ?_
    by_cases e : w = 0
    · rw [if_pos e] at h
      have hd := Nat.div_le_self (p_cnt (p_en S f v) (p_nb S)) (Nat.gcd (p_cnt (p_en S f v) (p_nb S)) (p_nb S))
      rw [← nI_l (by omega), ← pk_div (by omega) (by omega) (by omega)] at h
      refine v_bF rfl (fun z => z e) ?_
      refine v_go rfl ?_
      refine v_sd rfl (nI_ne0 (by omega) (by omega)) ?_
      exact v_go rfl (v_rt rfl trivial h)
    · rw [if_neg e] at h
      have hd := Nat.div_le_self (p_nb S) (Nat.gcd (p_cnt (p_en S f v) (p_nb S)) (p_nb S))
      rw [← nI_l (by omega), ← pk_div (by omega) (by omega) (by omega)] at h
      refine v_bT rfl e ?_
      refine v_go rfl ?_
      refine v_sd rfl (nI_ne0 (by omega) (by omega)) ?_
      exact v_go rfl (v_rt rfl trivial h)
  have key : ∀ (m b : Nat) (D1 : m_D), b + m = p_nb S → m_fr z_FT D D1 → trB S D1 → m_V L 7 Q t_X4_odds 3 (60, [some (.ref 0), some (.int (nI f)), some (.int (nI v)), some (.int w), some (.int (nI (p_nb S))), some (.int (nI (p_cnt (p_en S f v) b))), some (.int (nI b))], [], D1) := by
    intro m
    induction m with
    | zero =>
      intro b D1 hm hf ht
      have hm : b = p_nb S := by omega
      subst hm
      refine v_go rfl ?_
      refine v_bT rfl (Int32.le_refl _) ?_
      exact fin D1 hf
    | succ m ih =>
      intro b D1 hm hf ht
      refine v_go rfl ?_
      refine v_bF rfl (nI_ge (by omega) (by omega)) ?_
      refine v_go rfl ?_
      refine v_ca rfl ?_
      refine c_beginT ht hn (by omega) (fun D2 hf2 hr2 => ?_)
      refine v_go rfl ?_
      refine v_ca rfl ?_
      refine c_workOut (Or.inr rfl) hr2 (okS_beg ho hn) (fun D3 hf3 hF => ?_)
      have ih := ih (b + 1) D3 (by omega) ((hf.trans (hf2.sub (by simp))).trans (fF hf3)) (trB_F hf3 hr2 ho hn)
      rw [← nI_1] at ih
      have ec : p_cnt (p_en S f v) (b + 1) = p_cnt (p_en S f v) b + (if p_en S f v b then 1 else 0) := rfl
      rw [ec, ← nI_add] at ih
      have e20 : D3 20 f = nI (p_wet (begS S b) f S.1) := hF.2.2.1 f hf4
      have h102 : p_wet (begS S b) f S.1 ≤ 102 := p_wet_102 (okS_beg ho hn) f
      refine v_go rfl ?_
      refine v_sd rfl hin ?_
      rw [hcl, e20]
      refine v_go rfl ?_
      by_cases g : v ≤ p_wet (begS S b) f S.1
      · have ew : p_en S f v b = true := decide_eq_true g
        rw [ew] at ih
        refine v_bF rfl (nI_nlt g (by omega)) ?_
        exact v_run 6 rfl ih
      · have ew : p_en S f v b = false := decide_eq_false g
        rw [ew] at ih
        refine v_bT rfl (nI_lt (by omega) (by omega)) ?_
        exact v_run 5 rfl ih
  refine v_in (tb' := t_X4_odds) (rk' := 3) rfl rfl rfl ?_
  refine v_go rfl ?_
  refine v_ca rfl ?_
  refine c_isWithin (n := 120) (by omega) (fun _ => ?_) (fun z => absurd (vp_in_nI (by omega) (by omega)) z)
  refine v_go rfl ?_
  refine v_bF rfl (by decide) ?_
  refine v_go rfl ?_
  refine v_ca rfl ?_
  refine c_isWithin (n := 1) (by omega) (fun _ => ?_) (fun z => absurd hw z)
  refine v_go rfl ?_
  refine v_bF rfl (by decide) ?_
  refine v_go rfl ?_
  refine v_ca rfl ?_
  refine c_refusalOf hr.1 hn6 (fun z => absurd hin z) (fun _ z => absurd z (by decide)) (fun _ _ z => absurd z hn) (fun _ _ _ => ?_)
  refine v_go rfl ?_
  refine v_bT rfl rfl ?_
  refine v_go rfl ?_
  refine v_ca rfl ?_
  refine c_become hr ho (fun D1 hf1 hr1 => ?_)
  refine v_go rfl ?_
  refine v_ca rfl ?_
  refine c_beginnings (relC_FT (fT hf1) hr) ho ?_
  exact v_run 5 rfl (key (p_nb S) 0 D1 (by omega) (fT hf1) (trB_0 hr1 ho))
theorem y_odds {L f v : Nat} {w : Int32} {S : SH} {D : m_D} {Q : m_K} (hr : relM D S) (ho : okS S) (hf4 : f < 4) (hv : v ≤ 120) (hw : vp_in w 2) (hn : S.1 ≠ 0) (hk : S.2.1 ≠ 0) (h : ∀ D', m_fM z_MT [22] D D' → relM D' S → Q (some (.long (sp_odds S f v w))) D') : m_call L 8 150 [.ref 34, .int (nI f), .int (nI v), .int w] D Q := by
  have hn6 := ho.1
  have hk3 := ho.2.1
  have hnb := p_nb_lt ho
  have hnb0 := p_nb_0 hn
  have hcn := p_cnt_le (p_en S f v) (p_nb S)
  have r2 : D 34 2 = nI S.2.1 := hr.2.1
  have hin : vp_in (nI f) 4 := vp_in_nI hf4 (by omega)
  have key : ∀ (m b : Nat) (D1 : m_D), b + m = p_nb S → m_fM z_MT [22] D D1 → trM S D1 → relH D1 S → m_V L 7 Q t_X5_odds 3 (50, [some (.ref 34), some (.int (nI f)), some (.int (nI v)), some (.int w), some (.int (nI (p_cnt (p_en S f v) b))), some (.int (nI b))], [], D1) := by
    intro m
    induction m with
    | zero =>
      intro b D1 hm hf ht hh
      have hm : b = p_nb S := by omega
      subst hm
      obtain ⟨S1, hr1, ho1, e1, e2, -, -⟩ := id ht
      refine v_go rfl ?_
      refine v_ca rfl ?_
      refine c_beginningsM hr1 ho1 ?_
      refine v_go rfl ?_
      have e3 : p_nb S1 = p_nb S := by
        unfold p_nb
        rw [e1, e2]
      rw [e3]
      refine v_bT rfl (Int32.le_refl _) ?_
      refine v_go rfl ?_
      refine v_ca rfl ?_
      refine c_bringT ht ho hh (fun D2 hf2 hr2 => ?_)
      have h := h D2 (hf.trans (mtV hf2)) hr2
      refine v_go rfl ?_
      refine v_ca rfl ?_
      refine c_beginningsM hr2 ho ?_
      refine v_go rfl ?_
      refine v_ca rfl ?_
      rw [nI_l (by omega), nI_l (by omega)]
      refine c_share hnb0 (by omega) (by omega) ?_
      exact v_rt rfl trivial h
    | succ m ih =>
      intro b D1 hm hf ht hh
      obtain ⟨S1, hr1, ho1, e1, e2, -, -⟩ := id ht
      refine v_go rfl ?_
      refine v_ca rfl ?_
      refine c_beginningsM hr1 ho1 ?_
      refine v_go rfl ?_
      have e3 : p_nb S1 = p_nb S := by
        unfold p_nb
        rw [e1, e2]
      rw [e3]
      refine v_bF rfl (nI_ge (by omega) (by omega)) ?_
      refine v_go rfl ?_
      refine v_ca rfl ?_
      refine c_beginM ht hn (by omega) (fun D2 hf2 hr2 => ?_)
      refine v_go rfl ?_
      refine v_ca rfl ?_
      refine c_wetNow hr2 (okS_beg ho hn) hf4 (fun D3 hf3 hF => ?_)
      have hr3 := relM_keep hf3 (by decide) (by decide) hr2
      have hh3 : relH D3 S := relH_keep (relH_keep hh hf2 (by decide)) hf3 (by decide)
      have ih := ih (b + 1) D3 (by omega) ((hf.trans (mtB hf2)).trans (mtR hf3)) (trM_b hr3 ho hn) hh3
      rw [← nI_1] at ih
      have ec : p_cnt (p_en S f v) (b + 1) = p_cnt (p_en S f v) b + (if p_en S f v b then 1 else 0) := rfl
      rw [ec, ← nI_add] at ih
      have h102 : p_wet (begS S b) f S.1 ≤ 102 := p_wet_102 (okS_beg ho hn) f
      refine v_go rfl ?_
      by_cases g : v ≤ p_wet (begS S b) f S.1
      · have ew : p_en S f v b = true := decide_eq_true g
        rw [ew] at ih
        refine v_bF rfl (nI_nlt (a := p_wet (begS S b) f S.1) g (by omega)) ?_
        exact v_run 6 rfl ih
      · have ew : p_en S f v b = false := decide_eq_false g
        rw [ew] at ih
        refine v_bT rfl (nI_lt (a := p_wet (begS S b) f S.1) (by omega) (by omega)) ?_
        exact v_run 5 rfl ih
  refine v_in (tb' := t_X5_odds) (rk' := 3) rfl rfl rfl ?_
  refine v_go rfl ?_
  refine v_ca rfl ?_
  refine c_noField (fun _ => ?_) (fun z => absurd hin z)
  refine v_go rfl ?_
  refine v_bF rfl (by decide) ?_
  refine v_go rfl ?_
  refine v_ca rfl ?_
  refine c_in (fun _ _ => ?_) (fun z => absurd ((in_iff (n := 121) (by decide)).mpr (vp_in_nI (by omega) (by omega))) z)
  refine v_go rfl ?_
  refine v_bF rfl (by decide) ?_
  refine v_go rfl ?_
  refine v_ca rfl ?_
  refine c_in (fun _ _ => ?_) (fun z => absurd ((in_iff (n := 2) (by decide)).mpr hw) z)
  refine v_go rfl ?_
  refine v_bF rfl (by decide) ?_
  refine v_go rfl ?_
  rw [r2]
  refine v_bT rfl (nI_ne0 (by omega) (by omega)) ?_
  refine v_go rfl ?_
  refine v_ca rfl ?_
  refine c_keeps hr ho (fun D1 hf1 hh1 => ?_)
  have hr1 := relM_keep hf1 (by decide) (by decide) hr
  exact v_run 4 rfl (key (p_nb S) 0 D1 (by omega) (mtK hf1) (trM_0 hr1 ho) hh1)
theorem s_odds (x y w : Int32) : StepL 63 150 [.int x, .int y, .int w] := by
  intro L Z hz
  obtain ⟨S, rd, sh, tr, fl⟩ := Z
  have hoS : okS S := hz.1
  have hn6 : S.1 ≤ 6 := hoS.1
  have hnk : S.1 = 0 ↔ S.2.1 = 0 := hz.2.1
  have hk3 : S.2.1 ≤ 3 := hoS.2.1
  by_cases hok : vp_in x 4 ∧ vp_in y 121 ∧ vp_in w 2 ∧ S.1 ≠ 0
  · obtain ⟨hx, hy, hw, hn⟩ := hok
    have hk : S.2.1 ≠ 0 := fun z => hn (hnk.mpr z)
    obtain ⟨f, hf, rfl⟩ := vp_in_of hx (by omega)
    obtain ⟨v, hv, rfl⟩ := vp_in_of hy (by omega)
    refine ⟨sp_odds S f v w, (S, rd, sh, tr, fl), hz, fun D Q hI h => ?_, fun D Q hI h => ?_⟩
    · exact x_odds hI.1 hoS hf (by omega) hw hn (fun D' hf => h D' (frC_FT hf) (InvC_FT hI hf))
    · exact y_odds hI.1 hoS hf (by omega) hw hn hk (fun D' hf hr => h D' (frM_MT hf) (InvM_MT hI hr hf))
  · refine ⟨-9223372036854775808, (S, rd, sh, tr, fl), hz, fun D Q hI h => ?_, fun D Q hI h => ?_⟩
    · have h := h D (frC.refl _) hI
      have tail : ∀ b : Int32, (b = 0 ∨ (vp_in y 121 ∧ vp_in w 2)) → m_V L 7 Q t_X4_odds 3 (24, [some (.ref 0), some (.int x), some (.int y), some (.int w), none, none, none], [.int b, .int x, .ref 0], D) := by
        intro b hb
        refine v_ca rfl ?_
        refine c_refusalOf hI.1.1 hn6 (fun z => ?_) (fun _ z => ?_) (fun _ _ z => ?_) (fun z1 z2 z3 => absurd ⟨z1, (hb.resolve_left z2).1, (hb.resolve_left z2).2, z3⟩ hok)
        · refine v_go rfl ?_
          refine v_bF rfl (by decide) ?_
          exact v_go rfl (v_rt rfl trivial h)
        · refine v_go rfl ?_
          refine v_bF rfl (by decide) ?_
          exact v_go rfl (v_rt rfl trivial h)
        · refine v_go rfl ?_
          refine v_bF rfl (by decide) ?_
          exact v_go rfl (v_rt rfl trivial h)
      refine v_in (tb' := t_X4_odds) (rk' := 3) rfl rfl rfl ?_
      refine v_go rfl ?_
      refine v_ca rfl ?_
      refine c_isWithin (n := 120) (by omega) (fun z1 => ?_) (fun z1 => ?_)
      · refine v_go rfl ?_
        refine v_bF rfl (by decide) ?_
        refine v_go rfl ?_
        refine v_ca rfl ?_
        refine c_isWithin (n := 1) (by omega) (fun z2 => ?_) (fun z2 => ?_)
        · refine v_go rfl ?_
          refine v_bF rfl (by decide) ?_
          exact v_go rfl (tail 1 (Or.inr ⟨z1, z2⟩))
        · refine v_go rfl ?_
          refine v_bT rfl rfl ?_
          exact v_go rfl (tail 0 (Or.inl rfl))
      · refine v_go rfl ?_
        refine v_bT rfl rfl ?_
        exact v_go rfl (tail 0 (Or.inl rfl))
    · have h := h D (frM.refl _) hI
      have r2 : D 34 2 = nI S.2.1 := hI.1.2.1
      have tail : m_V L 7 Q t_X5_odds 3 (36, [some (.ref 34), some (.int x), some (.int y), some (.int w), none, none], [], D) := by
        refine v_ca rfl ?_
        refine c_lostM ?_
        exact v_rt rfl trivial h
      refine v_in (tb' := t_X5_odds) (rk' := 3) rfl rfl rfl ?_
      refine v_go rfl ?_
      refine v_ca rfl ?_
      refine c_noField (fun z1 => ?_) (fun z1 => ?_)
      · refine v_go rfl ?_
        refine v_bF rfl (by decide) ?_
        refine v_go rfl ?_
        refine v_ca rfl ?_
        refine c_in (fun p1 p2 => ?_) (fun z => ?_)
        · have z2 := (in_iff (n := 121) (by decide)).mp ⟨p1, p2⟩
          refine v_go rfl ?_
          refine v_bF rfl (by decide) ?_
          refine v_go rfl ?_
          refine v_ca rfl ?_
          refine c_in (fun p1 p2 => ?_) (fun z => ?_)
          · have z3 := (in_iff (n := 2) (by decide)).mp ⟨p1, p2⟩
            have hn : S.1 = 0 := Decidable.not_not.mp (fun z4 => hok ⟨z1, z2, z3, z4⟩)
            have hk := hnk.mp hn
            rw [hk] at r2
            refine v_go rfl ?_
            refine v_bF rfl (by decide) ?_
            refine v_go rfl ?_
            rw [r2]
            refine v_bF rfl (fun z => z rfl) ?_
            exact tail
          · refine v_go rfl ?_
            refine v_bT rfl rfl ?_
            exact tail
        · refine v_go rfl ?_
          refine v_bT rfl rfl ?_
          exact tail
      · refine v_go rfl ?_
        refine v_bT rfl (by decide) ?_
        exact tail
