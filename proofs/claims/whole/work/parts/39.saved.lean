/-! ===== saved ===== -/
def bitN (n i : Nat) : Bool := decide (n / 2 ^ i % 2 = 1)
theorem bitN4 : ∀ s, s < 16 → b_sum (bitN s) 4 = s := by decide +kernel
theorem bitN6 : ∀ s, s < 64 → b_sum (bitN s) 6 = s := by decide +kernel
def covS (S : SH) (s h : Nat) : SH := (S.1, S.2.1, S.2.2.1, fun f t => bitN s f && bitN h t)
theorem b_sum_0 : ∀ n, b_sum (fun _ => false) n = 0
  | 0 => rfl
  | n + 1 => by
    show b_sum (fun _ => false) n + (if false = true then 2 ^ n else 0) = 0
    rw [b_sum_0 n, if_neg (by decide)]
theorem cov_t {S : SH} {s h t : Nat} (hs : s < 16) : nI (b_sum (fun f => (covS S s h).2.2.2 f t) 4) = if bitN h t = true then nI s else 0 := by
  cases e : bitN h t with
  | true =>
    rw [if_pos rfl]
    have e2 : (fun f => (covS S s h).2.2.2 f t) = bitN s := by
      funext f
      show (bitN s f && bitN h t) = bitN s f
      rw [e, Bool.and_true]
    rw [e2, bitN4 s hs]
  | false =>
    rw [if_neg (by decide)]
    have e2 : (fun f => (covS S s h).2.2.2 f t) = fun _ => false := by
      funext f
      show (bitN s f && bitN h t) = false
      rw [e, Bool.and_false]
    rw [e2, b_sum_0]
    rfl
theorem cov_f {S : SH} {s h f : Nat} (hh : h < 64) : nI (b_sum (fun t => (covS S s h).2.2.2 f t) 6) = if bitN s f = true then nI h else 0 := by
  cases e : bitN s f with
  | true =>
    rw [if_pos rfl]
    have e2 : (fun t => (covS S s h).2.2.2 f t) = bitN h := by
      funext t
      show (bitN s f && bitN h t) = bitN h t
      rw [e, Bool.true_and]
    rw [e2, bitN6 h hh]
  | false =>
    rw [if_neg (by decide)]
    have e2 : (fun t => (covS S s h).2.2.2 f t) = fun _ => false := by
      funext t
      show (bitN s f && bitN h t) = false
      rw [e, Bool.false_and]
    rw [e2, b_sum_0]
    rfl
theorem bit_4 {s f : Nat} (hs : s < 16) (hf : f < 4) : (nI s >>> (nI f &&& 31)) &&& 1 = if bitN s f = true then 1 else 0 := by
  have h := b_bit4 (bitN s) hf
  rw [bitN4 s hs] at h
  exact h
theorem bit_6 {s f : Nat} (hs : s < 64) (hf : f < 6) : (nI s >>> (nI f &&& 31)) &&& 1 = if bitN s f = true then 1 else 0 := by
  have h := b_bit6 (bitN s) hf
  rw [bitN6 s hs] at h
  exact h
def trV (S : SH) (D : m_D) : Prop := ∃ cg, relC 8 D (S.1, S.2.1, S.2.2.1, cg)
def trW (S : SH) (D : m_D) : Prop := ∃ cg, relM D (S.1, S.2.1, S.2.2.1, cg)
theorem relC_cov {S : SH} {s h : Nat} {D D' : m_D} (hs : s < 16) (ht : trV S D) (hf : m_fr [14] D D') (hv : ∀ t, t < 6 → D' 14 t = if bitN h t = true then nI s else 0) : relC 8 D' (covS S s h) := by
  obtain ⟨cg, h1, h2, h3, h4, h5⟩ := ht
  have e : ∀ a, a ≠ 14 → D' a = D a := fun a ha => hf a (by simpa using ha)
  refine ⟨by rw [e 8 (by omega)]; exact h1, by rw [e 8 (by omega)]; exact h2, fun l hl => ?_, fun c hc => ?_, fun t ht => ?_⟩
  · rw [e (8 + 1) (by omega), e (8 + 2) (by omega)]
    exact h3 l hl
  · rw [e (8 + 3) (by omega), e (8 + 4) (by omega), e (8 + 5) (by omega)]
    exact h4 c hc
  · rw [cov_t hs]
    exact hv t ht
theorem relM_cov {S : SH} {s h : Nat} {D D' : m_D} (hh : h < 64) (ht : trW S D) (hf : m_fM [40] [] D D') (hv : ∀ f, f < 4 → D' 40 f = if bitN s f = true then nI h else 0) : relM D' (covS S s h) := by
  obtain ⟨cg, h1, h2, h3, h4, h5⟩ := ht
  have e : ∀ a, a ≠ 40 → a ≠ 34 → D' a = D a := fun a ha hb => hf.1 a (by simpa using ha) hb
  refine ⟨by rw [hf.2 1 (by simp)]; exact h1, by rw [hf.2 2 (by simp)]; exact h2, fun l hl => ?_, fun c hc => ?_, fun t ht => ?_⟩
  · rw [e 35 (by omega) (by omega), e 36 (by omega) (by omega)]
    exact h3 l hl
  · rw [e 37 (by omega) (by omega), e 38 (by omega) (by omega), e 39 (by omega) (by omega)]
    exact h4 c hc
  · rw [cov_f hh]
    exact hv t ht
def p_al (P : Nat → Bool) : Nat → Bool
  | 0 => true
  | f + 1 => p_al P f && P f
theorem p_al_pre (P : Nat → Bool) (x : Nat) (h : p_al P x = false) : ∀ m, p_al P (x + m) = false
  | 0 => h
  | m + 1 => by
    show (p_al P (x + m) && _) = false
    rw [p_al_pre P x h m]
    rfl
def p_dry (S : SH) (s v h f : Nat) : Bool := !bitN s f || decide (p_wet (covS S s h) f S.1 ≤ v)
def p_sv (S : SH) (s v h : Nat) : Bool := p_al (p_dry S s v h) 4
theorem okS_cov {S : SH} {s h : Nat} (ho : okS S) : okS (covS S s h) := ho
theorem c_savesBy {L d h s v : Nat} {S : SH} {D : m_D} {Q : m_K} (ho : okS S) (ht : trV S D) (hs : s < 16) (hh : h < 64) (hv : v < 100) (h1 : ∀ D', m_fr z_FT D D' → trV S D' → p_sv S s v h = true → Q (some (.int 1)) D') (h0 : ∀ D', m_fr z_FT D D' → trV S D' → p_sv S s v h = false → Q (some (.int 0)) D') : m_call L (d + 5) 49 [.ref 0, .int (nI h), .int (nI s), .int (nI v)] D Q := by
  have k2 : ∀ (D1 : m_D), m_fr z_FT D D1 → trV S D1 → (∀ f, f < 4 → D1 20 f = nI (p_wet (covS S s h) f S.1)) → ∀ (m f : Nat), f + m = 4 → p_al (p_dry S s v h) f = true → m_V L (d + 4) Q t_X4_savesBy 2 (55, [some (.ref 0), some (.int (nI h)), some (.int (nI s)), some (.int (nI v)), some (.int (nI f))], [], D1) := by
    intro D1 hf1 ht1 hF m
    induction m with
    | zero =>
      intro f hm hp
      have hm : f = 4 := by omega
      subst hm
      refine v_go rfl ?_
      refine v_bT rfl (Int32.le_refl _) ?_
      exact v_go rfl (v_rt rfl (Or.inr rfl) (h1 D1 hf1 ht1 hp))
    | succ m ih =>
      intro f hm hp
      have hin : vp_in (nI f) 4 := vp_in_nI (by omega) (by omega)
      have hcl : (nI f).toNatClampNeg = f := nI_clamp (by omega)
      have h102 : p_wet (covS S s h) f S.1 ≤ 102 := p_wet_102 (okS_cov ho) f
      have e : p_al (p_dry S s v h) (f + 1) = (p_al (p_dry S s v h) f && (!bitN s f || decide (p_wet (covS S s h) f S.1 ≤ v))) := rfl
      have ih := ih (f + 1) (by omega)
      rw [← nI_1] at ih
      refine v_go rfl ?_
      refine v_bF rfl (nI_ge (b := 4) (by omega) (by omega)) ?_
      refine v_go rfl ?_
      rw [bit_4 hs (by omega)]
      cases hb : bitN s f with
      | false =>
        refine v_bT rfl (by decide) ?_
        exact v_run 2 rfl (ih (by rw [e, hp, hb]; rfl))
      | true =>
        refine v_bF rfl (fun z => z rfl) ?_
        refine v_go rfl ?_
        refine v_sd rfl hin ?_
        rw [hcl, hF f (by omega)]
        refine v_go rfl ?_
        by_cases g : p_wet (covS S s h) f S.1 ≤ v
        · refine v_bT rfl (nI_le g (by omega)) ?_
          exact v_run 2 rfl (ih (by rw [e, hp, hb, decide_eq_true g]; rfl))
        · refine v_bF rfl (nI_ge (by omega) (by omega)) ?_
          have e0 : p_al (p_dry S s v h) (f + 1) = false := by rw [e, hp, hb, decide_eq_false g]; rfl
          have e1 := p_al_pre _ (f + 1) e0 m
          rw [show f + 1 + m = 4 by omega] at e1
          exact v_go rfl (v_rt rfl (Or.inl rfl) (h0 D1 hf1 ht1 e1))
  have k1 : ∀ (m t : Nat) (D1 : m_D), t + m = 6 → m_fr [14] D D1 → (∀ q, q < t → D1 14 q = if bitN h q = true then nI s else 0) → m_V L (d + 4) Q t_X4_savesBy 2 (3, [some (.ref 0), some (.int (nI h)), some (.int (nI s)), some (.int (nI v)), some (.int (nI t))], [], D1) := by
    intro m
    induction m with
    | zero =>
      intro t D1 hm hf hp
      have hm : t = 6 := by omega
      subst hm
      have hr2 := relC_cov hs ht hf hp
      refine v_go rfl ?_
      refine v_bT rfl (Int32.le_refl _) ?_
      refine v_go rfl ?_
      refine v_ca rfl ?_
      refine c_workOut (Or.inr rfl) hr2 (okS_cov ho) (fun D3 hf3 hF => ?_)
      exact v_run 2 rfl (k2 D3 ((hf.sub (by simp)).trans (fF hf3)) ⟨_, relC_c (fun i hi => hf3 _ (z_F_B (Or.inr rfl) i hi)) hr2⟩ hF.2.2.1 4 0 (by omega) rfl)
    | succ m ih =>
      intro t D1 hm hf hp
      have hin : vp_in (nI t) 6 := vp_in_nI (by omega) (by omega)
      have hcl : (nI t).toNatClampNeg = t := nI_clamp (by omega)
      have ih := ih (t + 1) (m_up D1 14 t (if bitN h t = true then nI s else 0)) (by omega) (hf.up (by simp)) (fun q hq => by
        by_cases e : q = t
        · rw [e, m_up_s]
        · rw [m_up_n e]
          exact hp q (by omega))
      rw [← nI_1] at ih
      refine v_go rfl ?_
      refine v_bF rfl (nI_ge (b := 6) (by omega) (by omega)) ?_
      refine v_go rfl ?_
      rw [bit_6 hh (by omega)]
      cases hb : bitN h t with
      | true =>
        rw [hb] at ih
        refine v_bF rfl (fun z => z rfl) ?_
        refine v_go rfl ?_
        refine v_sd rfl hin ?_
        rw [hcl]
        exact v_run 2 rfl ih
      | false =>
        rw [hb] at ih
        refine v_bT rfl (by decide) ?_
        refine v_go rfl ?_
        refine v_sd rfl hin ?_
        rw [hcl]
        exact v_run 2 rfl ih
  refine v_in (tb' := t_X4_savesBy) (rk' := 2) rfl rfl rfl ?_
  exact v_run 2 rfl (k1 6 0 D (by omega) (m_fr.refl _ _) (fun q hq => absurd hq (by omega)))
theorem c_areSaved {L d h s v : Nat} {S : SH} {D : m_D} {Q : m_K} (ho : okS S) (hr : relM D (covS S s h)) (hs : s < 16) (hv : v < 100) (h1 : ∀ D', m_fM z_R [22] D D' → p_sv S s v h = true → Q (some (.int 1)) D') (h0 : ∀ D', m_fM z_R [22] D D' → p_sv S s v h = false → Q (some (.int 0)) D') : m_call L (d + 4) 138 [.ref 34, .int (nI s), .int (nI v)] D Q := by
  refine v_in (tb' := t_X5_areSaved) (rk' := 2) rfl rfl rfl ?_
  refine v_go rfl ?_
  refine v_ca rfl ?_
  refine c_rains hr (okS_cov ho) (fun D3 hf3 hF => ?_)
  have key : ∀ (m f : Nat), f + m = 4 → m_V L (d + 3) Q t_X5_areSaved 2 (9, [some (.ref 34), some (.int (nI s)), some (.int (nI v)), some (.int (if p_al (p_dry S s v h) f = true then 1 else 0)), some (.int (nI f))], [], D3) := by
    intro m
    induction m with
    | zero =>
      intro f hm
      have hm : f = 4 := by omega
      subst hm
      refine v_go rfl ?_
      refine v_bT rfl (Int32.le_refl _) ?_
      cases hp : p_al (p_dry S s v h) 4 with
      | true => exact v_go rfl (v_rt rfl (Or.inr rfl) (h1 D3 hf3 hp))
      | false => exact v_go rfl (v_rt rfl (Or.inl rfl) (h0 D3 hf3 hp))
    | succ m ih =>
      intro f hm
      have hin : vp_in (nI f) 4 := vp_in_nI (by omega) (by omega)
      have hcl : (nI f).toNatClampNeg = f := nI_clamp (by omega)
      have h102 : p_wet (covS S s h) f S.1 ≤ 102 := p_wet_102 (okS_cov ho) f
      have e50 : D3 50 f = nI (p_wet (covS S s h) f S.1) := hF.2.2.1 f (by omega)
      have e : p_al (p_dry S s v h) (f + 1) = (p_al (p_dry S s v h) f && (!bitN s f || decide (p_wet (covS S s h) f S.1 ≤ v))) := rfl
      have ih := ih (f + 1) (by omega)
      rw [← nI_1, e] at ih
      refine v_go rfl ?_
      refine v_bF rfl (nI_ge (b := 4) (by omega) (by omega)) ?_
      refine v_go rfl ?_
      cases hp : p_al (p_dry S s v h) f with
      | false =>
        rw [hp] at ih
        refine v_bT rfl rfl ?_
        exact v_run 4 rfl ih
      | true =>
        rw [hp] at ih
        refine v_bF rfl (by decide) ?_
        refine v_go rfl ?_
        rw [bit_4 hs (by omega)]
        cases hb : bitN s f with
        | false =>
          rw [hb] at ih
          refine v_bT rfl rfl ?_
          exact v_run 5 rfl ih
        | true =>
          rw [hb] at ih
          refine v_bF rfl (by decide) ?_
          refine v_go rfl ?_
          refine v_sd rfl hin ?_
          rw [hcl, e50]
          refine v_go rfl ?_
          by_cases g : p_wet (covS S s h) f S.1 ≤ v
          · rw [decide_eq_true g] at ih
            refine v_bF rfl (nI_nlt g (by omega)) ?_
            exact v_run 5 rfl ih
          · rw [decide_eq_false g] at ih
            refine v_bT rfl (nI_lt (by omega) (by omega)) ?_
            exact v_run 4 rfl ih
  exact v_run 4 rfl (key 4 0 (by omega))
def p_fw (S : SH) (s v : Nat) : Nat → Option Nat
  | 0 => none
  | h + 1 => match p_fw S s v h with
    | none => if p_sv S s v h = true then some (popN 6 h) else none
    | some w => if popN 6 h < w ∧ p_sv S s v h = true then some (popN 6 h) else some w
theorem pop_le : ∀ m, m < 64 → popN 6 m ≤ 6 := by decide +kernel
theorem p_fw_le (S : SH) (s v : Nat) : ∀ h, h ≤ 64 → ∀ w, p_fw S s v h = some w → w ≤ 6
  | 0, _, w, e => by cases e
  | h + 1, hh, w, e => by
    have ih := p_fw_le S s v h (by omega)
    have hp := pop_le h (by omega)
    have e : (match p_fw S s v h with
      | none => if p_sv S s v h = true then some (popN 6 h) else none
      | some w => if popN 6 h < w ∧ p_sv S s v h = true then some (popN 6 h) else some w) = some w := e
    cases e1 : p_fw S s v h with
    | none =>
      rw [e1] at e
      dsimp only at e
      split at e
      · cases e
        exact hp
      · cases e
    | some u =>
      rw [e1] at e
      dsimp only at e
      split at e
      · cases e
        exact hp
      · cases e
        exact ih _ e1
theorem x_saved {L s v : Nat} {S : SH} {D : m_D} {Q : m_K} (hr : relC 1 D S) (ho : okS S) (hn : S.1 ≠ 0) (hs : s < 16) (hv : v < 100) (h : ∀ D', m_fr z_FT D D' → Q (some (.int (oI (p_fw S s v 64)))) D') : m_call L 8 48 [.ref 0, .int (nI s), .int (nI v)] D Q := by
  have hn6 := ho.1
  have key : ∀ (m i : Nat) (z : Option Value) (D1 : m_D), i + m = 64 → m_fr z_FT D D1 → trV S D1 → m_V L 7 Q t_X4_saved 1 (48, [some (.ref 0), some (.int (nI s)), some (.int (nI v)), some (.int (oI (p_fw S s v i))), some (.int (nI i)), z], [], D1) := by
    intro m
    induction m with
    | zero =>
      intro i z D1 hm hf ht
      have hm : i = 64 := by omega
      subst hm
      refine v_go rfl ?_
      refine v_bT rfl (Int32.le_refl _) ?_
      exact v_go rfl (v_rt rfl trivial (h D1 hf))
    | succ m ih =>
      intro i z D1 hm hf ht
      have hp6 := pop_le i (by omega)
      have hw6 := p_fw_le S s v i (by omega)
      have e : p_fw S s v (i + 1) = match p_fw S s v i with
        | none => if p_sv S s v i = true then some (popN 6 i) else none
        | some w => if popN 6 i < w ∧ p_sv S s v i = true then some (popN 6 i) else some w := rfl
      refine v_go rfl ?_
      refine v_bF rfl (nI_ge (b := 64) (by omega) (by omega)) ?_
      refine v_go rfl ?_
      refine v_ca rfl ?_
      refine c_bitCount (by omega) ?_
      refine v_go rfl ?_
      cases hw : p_fw S s v i with
      | none =>
        rw [hw] at e
        dsimp only at e
        refine v_bT rfl rfl ?_
        refine v_go rfl ?_
        refine v_ca rfl ?_
        refine c_savesBy ho ht hs (by omega) hv (fun D2 hf2 ht2 hp => ?_) (fun D2 hf2 ht2 hp => ?_)
        · rw [if_pos hp] at e
          have ih := ih (i + 1) (some (.int (nI (popN 6 i)))) D2 (by omega) (hf.trans hf2) ht2
          rw [e, ← nI_1] at ih
          refine v_go rfl ?_
          refine v_bF rfl (by decide) ?_
          exact v_run 4 rfl ih
        · rw [hp, if_neg (by decide)] at e
          have ih := ih (i + 1) (some (.int (nI (popN 6 i)))) D2 (by omega) (hf.trans hf2) ht2
          rw [e, ← nI_1] at ih
          refine v_go rfl ?_
          refine v_bT rfl rfl ?_
          exact v_run 2 rfl ih
      | some w =>
        have hw6 := hw6 w hw
        rw [hw] at e
        dsimp only at e
        refine v_bF rfl (nI_m9 (by omega)) ?_
        refine v_go rfl ?_
        by_cases g : popN 6 i < w
        · refine v_bF rfl (nI_ge g (by omega)) ?_
          refine v_go rfl ?_
          refine v_ca rfl ?_
          refine c_savesBy ho ht hs (by omega) hv (fun D2 hf2 ht2 hp => ?_) (fun D2 hf2 ht2 hp => ?_)
          · rw [if_pos ⟨g, hp⟩] at e
            have ih := ih (i + 1) (some (.int (nI (popN 6 i)))) D2 (by omega) (hf.trans hf2) ht2
            rw [e, ← nI_1] at ih
            refine v_go rfl ?_
            refine v_bF rfl (by decide) ?_
            exact v_run 4 rfl ih
          · rw [hp, if_neg (fun z => by cases z.2)] at e
            have ih := ih (i + 1) (some (.int (nI (popN 6 i)))) D2 (by omega) (hf.trans hf2) ht2
            rw [e, ← nI_1] at ih
            refine v_go rfl ?_
            refine v_bT rfl rfl ?_
            exact v_run 2 rfl ih
        · rw [if_neg (fun z => g z.1)] at e
          have ih := ih (i + 1) (some (.int (nI (popN 6 i)))) D1 (by omega) hf ht
          rw [e, ← nI_1] at ih
          refine v_bT rfl (nI_le (by omega) (by omega)) ?_
          exact v_run 2 rfl ih
  refine v_in (tb' := t_X4_saved) (rk' := 1) rfl rfl rfl ?_
  refine v_go rfl ?_
  refine v_ca rfl ?_
  refine c_isWithin (n := 15) (by omega) (fun _ => ?_) (fun z => absurd (vp_in_nI (by omega) (by omega)) z)
  refine v_go rfl ?_
  refine v_bF rfl (by decide) ?_
  refine v_go rfl ?_
  refine v_ca rfl ?_
  refine c_isWithin (n := 99) (by omega) (fun _ => ?_) (fun z => absurd (vp_in_nI (by omega) (by omega)) z)
  refine v_go rfl ?_
  refine v_bT rfl (by decide) ?_
  refine v_go rfl ?_
  refine v_ca rfl ?_
  refine c_hasShower hr.1 hn6 (fun _ => ?_) (fun z => absurd z hn)
  refine v_go rfl ?_
  refine v_bT rfl (by decide) ?_
  refine v_go rfl ?_
  refine v_ca rfl ?_
  refine c_become hr ho (fun D1 hf1 hr1 => ?_)
  exact v_run 4 rfl (key 64 0 none D1 (by omega) (fT hf1) ⟨S.2.2.2, hr1⟩)
theorem y_saved {L s v : Nat} {S : SH} {D : m_D} {Q : m_K} (hr : relM D S) (ho : okS S) (hk : S.2.1 ≠ 0) (hs : s < 16) (hv : v < 100) (h : ∀ D', m_fM z_MT [22] D D' → relM D' S → Q (some (.int (oI (p_fw S s v 64)))) D') : m_call L 8 139 [.ref 34, .int (nI s), .int (nI v)] D Q := by
  have hn6 := ho.1
  have hk3 := ho.2.1
  have r2 : D 34 2 = nI S.2.1 := hr.2.1
  have key : ∀ (m i : Nat) (z : Option Value) (D1 : m_D), i + m = 64 → m_fM z_MT [22] D D1 → trW S D1 → relH D1 S → m_V L 7 Q t_X5_saved 1 (47, [some (.ref 34), some (.int (nI s)), some (.int (nI v)), some (.int (oI (p_fw S s v i))), some (.int (nI i)), z], [], D1) := by
    intro m
    induction m with
    | zero =>
      intro i z D1 hm hf ht hh
      have hm : i = 64 := by omega
      subst hm
      obtain ⟨cg, hr1⟩ := ht
      refine v_go rfl ?_
      refine v_bT rfl (Int32.le_refl _) ?_
      refine v_go rfl ?_
      refine v_ca rfl ?_
      refine c_brings hr1 ho rfl rfl (fun _ _ _ => rfl) hh (fun D2 hf2 hr2 => ?_)
      exact v_go rfl (v_rt rfl trivial (h D2 (hf.trans (mtV hf2)) hr2))
    | succ m ih =>
      intro i z D1 hm hf ht hh
      have hp6 := pop_le i (by omega)
      have hw6 := p_fw_le S s v i (by omega)
      have e : p_fw S s v (i + 1) = match p_fw S s v i with
        | none => if p_sv S s v i = true then some (popN 6 i) else none
        | some w => if popN 6 i < w ∧ p_sv S s v i = true then some (popN 6 i) else some w := rfl
      have k2 : ∀ (D2 : m_D), m_fM [40] [] D1 D2 → relM D2 (covS S s i) → m_V L 7 Q t_X5_saved 1 (92, [some (.ref 34), some (.int (nI s)), some (.int (nI v)), some (.int (oI (p_fw S s v i))), some (.int (nI i)), some (.int (nI 4))], [], D2) := by
        intro D2 hf2 hr2
        have hfa : m_fM z_MT [22] D D2 := hf.trans (hf2.sub (by simp) (by simp))
        have hh2 : relH D2 S := relH_keep hh hf2 (by decide)
        cases hw : p_fw S s v i with
        | none =>
          rw [hw] at e
          dsimp only at e
          refine v_go rfl ?_
          refine v_bT rfl (by decide) ?_
          refine v_go rfl ?_
          refine v_bF rfl (by decide) ?_
          refine v_go rfl ?_
          refine v_ca rfl ?_
          refine c_areSaved ho hr2 hs hv (fun D3 hf3 hp => ?_) (fun D3 hf3 hp => ?_)
          · have hr3 := relM_keep hf3 (by decide) (by decide) hr2
            have ih := ih (i + 1) (some (.int 1)) D3 (by omega) (hfa.trans (mtR hf3)) ⟨_, hr3⟩ (relH_keep hh2 hf3 (by decide))
            rw [if_pos hp] at e
            rw [e, ← nI_1] at ih
            refine v_go rfl ?_
            refine v_bF rfl (by decide) ?_
            refine v_go rfl ?_
            refine v_ca rfl ?_
            refine c_bits (by omega) ?_
            exact v_run 4 rfl ih
          · have hr3 := relM_keep hf3 (by decide) (by decide) hr2
            have ih := ih (i + 1) (some (.int 1)) D3 (by omega) (hfa.trans (mtR hf3)) ⟨_, hr3⟩ (relH_keep hh2 hf3 (by decide))
            rw [hp, if_neg (by decide)] at e
            rw [e, ← nI_1] at ih
            refine v_go rfl ?_
            refine v_bT rfl rfl ?_
            exact v_run 4 rfl ih
        | some w =>
          have hw6 := hw6 w hw
          rw [hw] at e
          dsimp only at e
          refine v_go rfl ?_
          refine v_bF rfl (nI_pos (by omega)) ?_
          refine v_go rfl ?_
          refine v_ca rfl ?_
          refine c_bits (by omega) ?_
          refine v_go rfl ?_
          by_cases g : popN 6 i < w
          · refine v_bF rfl (nI_ge g (by omega)) ?_
            refine v_go rfl ?_
            refine v_bF rfl (by decide) ?_
            refine v_go rfl ?_
            refine v_ca rfl ?_
            refine c_areSaved ho hr2 hs hv (fun D3 hf3 hp => ?_) (fun D3 hf3 hp => ?_)
            · have hr3 := relM_keep hf3 (by decide) (by decide) hr2
              have ih := ih (i + 1) (some (.int 1)) D3 (by omega) (hfa.trans (mtR hf3)) ⟨_, hr3⟩ (relH_keep hh2 hf3 (by decide))
              rw [if_pos ⟨g, hp⟩] at e
              rw [e, ← nI_1] at ih
              refine v_go rfl ?_
              refine v_bF rfl (by decide) ?_
              refine v_go rfl ?_
              refine v_ca rfl ?_
              refine c_bits (by omega) ?_
              exact v_run 4 rfl ih
            · have hr3 := relM_keep hf3 (by decide) (by decide) hr2
              have ih := ih (i + 1) (some (.int 1)) D3 (by omega) (hfa.trans (mtR hf3)) ⟨_, hr3⟩ (relH_keep hh2 hf3 (by decide))
              rw [hp, if_neg (fun z => by cases z.2)] at e
              rw [e, ← nI_1] at ih
              refine v_go rfl ?_
              refine v_bT rfl rfl ?_
              exact v_run 4 rfl ih
          · have ih := ih (i + 1) (some (.int 0)) D2 (by omega) hfa ⟨_, hr2⟩ hh2
            rw [if_neg (fun z => g z.1)] at e
            rw [e, ← nI_1] at ih
            refine v_bT rfl (nI_le (by omega) (by omega)) ?_
            refine v_go rfl ?_
            refine v_bT rfl rfl ?_
            exact v_run 4 rfl ih
      have k1 : ∀ (q f : Nat) (D2 : m_D), f + q = 4 → m_fM [40] [] D1 D2 → (∀ a, a < f → D2 40 a = if bitN s a = true then nI i else 0) → m_V L 7 Q t_X5_saved 1 (57, [some (.ref 34), some (.int (nI s)), some (.int (nI v)), some (.int (oI (p_fw S s v i))), some (.int (nI i)), some (.int (nI f))], [], D2) := by
        intro q
        induction q with
        | zero =>
          intro f D2 hq hf2 hp
          have hq : f = 4 := by omega
          subst hq
          refine v_go rfl ?_
          refine v_bT rfl (Int32.le_refl _) ?_
          exact k2 D2 hf2 (relM_cov (by omega) ht hf2 hp)
        | succ q ih2 =>
          intro f D2 hq hf2 hp
          have hin : vp_in (nI f) 4 := vp_in_nI (by omega) (by omega)
          have hcl : (nI f).toNatClampNeg = f := nI_clamp (by omega)
          have ih2 := ih2 (f + 1) (m_up D2 40 f (if bitN s f = true then nI i else 0)) (by omega) (hf2.up (by simp) (by decide)) (fun a ha => by
            by_cases e : a = f
            · rw [e, m_up_s]
            · rw [m_up_n e]
              exact hp a (by omega))
          rw [← nI_1] at ih2
          refine v_go rfl ?_
          refine v_bF rfl (nI_ge (b := 4) (by omega) (by omega)) ?_
          refine v_go rfl ?_
          rw [bit_4 hs (by omega)]
          cases hb : bitN s f with
          | true =>
            rw [hb] at ih2
            refine v_bF rfl (fun z => z rfl) ?_
            refine v_go rfl ?_
            refine v_sd rfl hin ?_
            rw [hcl]
            exact v_run 2 rfl ih2
          | false =>
            rw [hb] at ih2
            refine v_bT rfl (by decide) ?_
            refine v_go rfl ?_
            refine v_sd rfl hin ?_
            rw [hcl]
            exact v_run 2 rfl ih2
      refine v_go rfl ?_
      refine v_bF rfl (nI_ge (b := 64) (by omega) (by omega)) ?_
      exact v_run 2 rfl (k1 4 0 D1 (by omega) (m_fM.refl _ _ _) (fun a ha => absurd ha (by omega)))
  refine v_in (tb' := t_X5_saved) (rk' := 1) rfl rfl rfl ?_
  refine v_go rfl ?_
  refine v_ca rfl ?_
  refine c_in (fun _ _ => ?_) (fun z => absurd ((in_iff (n := 16) (by decide)).mpr (vp_in_nI (by omega) (by omega))) z)
  refine v_go rfl ?_
  refine v_bF rfl (by decide) ?_
  refine v_go rfl ?_
  refine v_ca rfl ?_
  refine c_in (fun _ _ => ?_) (fun z => absurd ((in_iff (n := 100) (by decide)).mpr (vp_in_nI (by omega) (by omega))) z)
  refine v_go rfl ?_
  refine v_bT rfl (by decide) ?_
  refine v_go rfl ?_
  rw [r2]
  refine v_bT rfl (nI_ne0 (by omega) (by omega)) ?_
  refine v_go rfl ?_
  refine v_ca rfl ?_
  refine c_keeps hr ho (fun D1 hf1 hh1 => ?_)
  have hr1 := relM_keep hf1 (by decide) (by decide) hr
  exact v_run 4 rfl (key 64 0 none D1 (by omega) (mtK hf1) ⟨S.2.2.2, hr1⟩ hh1)
theorem s_saved (x y : Int32) : StepI 48 139 [.int x, .int y] := by
  intro L Z hz
  obtain ⟨S, rd, sh, tr, fl⟩ := Z
  have hoS : okS S := hz.1
  have hn6 : S.1 ≤ 6 := hoS.1
  have hnk : S.1 = 0 ↔ S.2.1 = 0 := hz.2.1
  have hk3 : S.2.1 ≤ 3 := hoS.2.1
  by_cases hxy : vp_in x 16 ∧ vp_in y 100
  · obtain ⟨hx, hy⟩ := hxy
    by_cases hn : S.1 = 0
    · have hk : S.2.1 = 0 := hnk.mp hn
      refine ⟨-3, (S, rd, sh, tr, fl), hz, fun D Q hI h => ?_, fun D Q hI h => ?_⟩
      · refine v_in (tb' := t_X4_saved) (rk' := 1) rfl rfl rfl ?_
        refine v_go rfl ?_
        refine v_ca rfl ?_
        refine c_isWithin (n := 15) (by omega) (fun _ => ?_) (fun z => absurd hx z)
        refine v_go rfl ?_
        refine v_bF rfl (by decide) ?_
        refine v_go rfl ?_
        refine v_ca rfl ?_
        refine c_isWithin (n := 99) (by omega) (fun _ => ?_) (fun z => absurd hy z)
        refine v_go rfl ?_
        refine v_bT rfl (by decide) ?_
        refine v_go rfl ?_
        refine v_ca rfl ?_
        refine c_hasShower hI.1.1 hn6 (fun z => absurd hn z) (fun _ => ?_)
        refine v_go rfl ?_
        refine v_bF rfl (by decide) ?_
        exact v_go rfl (v_rt rfl trivial (h _ (frC.refl _) hI))
      · have r2 : D 34 2 = nI 0 := by rw [← hk]; exact hI.1.2.1
        refine v_in (tb' := t_X5_saved) (rk' := 1) rfl rfl rfl ?_
        refine v_go rfl ?_
        refine v_ca rfl ?_
        refine c_in (fun _ _ => ?_) (fun z => absurd ((in_iff (n := 16) (by decide)).mpr hx) z)
        refine v_go rfl ?_
        refine v_bF rfl (by decide) ?_
        refine v_go rfl ?_
        refine v_ca rfl ?_
        refine c_in (fun _ _ => ?_) (fun z => absurd ((in_iff (n := 100) (by decide)).mpr hy) z)
        refine v_go rfl ?_
        refine v_bT rfl (by decide) ?_
        refine v_go rfl ?_
        rw [r2]
        refine v_bF rfl (fun z => z rfl) ?_
        exact v_go rfl (v_rt rfl trivial (h _ (frM.refl _) hI))
    · have hk : S.2.1 ≠ 0 := fun z => hn (hnk.mpr z)
      obtain ⟨s, hs, rfl⟩ := vp_in_of hx (by omega)
      obtain ⟨v, hv, rfl⟩ := vp_in_of hy (by omega)
      refine ⟨oI (p_fw S s v 64), (S, rd, sh, tr, fl), hz, fun D Q hI h => ?_, fun D Q hI h => ?_⟩
      · exact x_saved hI.1 hoS hn hs hv (fun D' hf => h D' (frC_FT hf) (InvC_FT hI hf))
      · exact y_saved hI.1 hoS hk hs hv (fun D' hf hr => h D' (frM_MT hf) (InvM_MT hI hr hf))
  · refine ⟨-2, (S, rd, sh, tr, fl), hz, fun D Q hI h => ?_, fun D Q hI h => ?_⟩
    · have h := h _ (frC.refl _) hI
      refine v_in (tb' := t_X4_saved) (rk' := 1) rfl rfl rfl ?_
      refine v_go rfl ?_
      refine v_ca rfl ?_
      refine c_isWithin (n := 15) (by omega) (fun z1 => ?_) (fun _ => ?_)
      · refine v_go rfl ?_
        refine v_bF rfl (by decide) ?_
        refine v_go rfl ?_
        refine v_ca rfl ?_
        refine c_isWithin (n := 99) (by omega) (fun z2 => absurd ⟨z1, z2⟩ hxy) (fun _ => ?_)
        refine v_go rfl ?_
        refine v_bF rfl (by decide) ?_
        exact v_go rfl (v_rt rfl trivial h)
      · refine v_go rfl ?_
        refine v_bT rfl rfl ?_
        exact v_go rfl (v_rt rfl trivial h)
    · have h := h _ (frM.refl _) hI
      refine v_in (tb' := t_X5_saved) (rk' := 1) rfl rfl rfl ?_
      refine v_go rfl ?_
      refine v_ca rfl ?_
      refine c_in (fun p1 p2 => ?_) (fun _ => ?_)
      · have z1 := (in_iff (n := 16) (by decide)).mp ⟨p1, p2⟩
        refine v_go rfl ?_
        refine v_bF rfl (by decide) ?_
        refine v_go rfl ?_
        refine v_ca rfl ?_
        refine c_in (fun p1 p2 => absurd ⟨z1, (in_iff (n := 100) (by decide)).mp ⟨p1, p2⟩⟩ hxy) (fun _ => ?_)
        refine v_go rfl ?_
        refine v_bF rfl (by decide) ?_
        exact v_go rfl (v_rt rfl trivial h)
      · refine v_go rfl ?_
        refine v_bT rfl rfl ?_
        exact v_go rfl (v_rt rfl trivial h)
