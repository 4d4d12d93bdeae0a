/-! ===== cough, comes, wet, ofLine, ofCrier ===== -/
def flipC (S : SH) (f t : Nat) : SH := (S.1, S.2.1, S.2.2.1, fun a b => if a = f ∧ b = t then !S.2.2.2 a b else S.2.2.2 a b)
def b_flip (b : Nat → Bool) (f : Nat) : Nat → Bool := fun a => if a = f then !b a else b a
theorem b_fl4 : ∀ b0 b1 b2 b3 : Bool, ∀ f : Fin 4, nI ((((0 + if b0 then 2 ^ 0 else 0) + if b1 then 2 ^ 1 else 0) + if b2 then 2 ^ 2 else 0) + if b3 then 2 ^ 3 else 0) ^^^ (1 <<< (nI f.val &&& 31)) = nI ((((0 + if (if f.val = 0 then !b0 else b0) then 2 ^ 0 else 0) + if (if f.val = 1 then !b1 else b1) then 2 ^ 1 else 0) + if (if f.val = 2 then !b2 else b2) then 2 ^ 2 else 0) + if (if f.val = 3 then !b3 else b3) then 2 ^ 3 else 0) := by decide +kernel
theorem b_flip4 (b : Nat → Bool) {f : Nat} (hf : f < 4) : nI (b_sum b 4) ^^^ (1 <<< (nI f &&& 31)) = nI (b_sum (b_flip b f) 4) := by
  have h := b_fl4 (b 0) (b 1) (b 2) (b 3) ⟨f, hf⟩
  match f, hf with
  | 0, _ => exact h
  | 1, _ => exact h
  | 2, _ => exact h
  | 3, _ => exact h
theorem b_fl6 : ∀ b0 b1 b2 b3 b4 b5 : Bool, ∀ f : Fin 6, nI ((((((0 + if b0 then 2 ^ 0 else 0) + if b1 then 2 ^ 1 else 0) + if b2 then 2 ^ 2 else 0) + if b3 then 2 ^ 3 else 0) + if b4 then 2 ^ 4 else 0) + if b5 then 2 ^ 5 else 0) ^^^ (1 <<< (nI f.val &&& 31)) = nI ((((((0 + if (if f.val = 0 then !b0 else b0) then 2 ^ 0 else 0) + if (if f.val = 1 then !b1 else b1) then 2 ^ 1 else 0) + if (if f.val = 2 then !b2 else b2) then 2 ^ 2 else 0) + if (if f.val = 3 then !b3 else b3) then 2 ^ 3 else 0) + if (if f.val = 4 then !b4 else b4) then 2 ^ 4 else 0) + if (if f.val = 5 then !b5 else b5) then 2 ^ 5 else 0) := by decide +kernel
theorem b_flip6 (b : Nat → Bool) {f : Nat} (hf : f < 6) : nI (b_sum b 6) ^^^ (1 <<< (nI f &&& 31)) = nI (b_sum (b_flip b f) 6) := by
  have h := b_fl6 (b 0) (b 1) (b 2) (b 3) (b 4) (b 5) ⟨f, hf⟩
  match f, hf with
  | 0, _ => exact h
  | 1, _ => exact h
  | 2, _ => exact h
  | 3, _ => exact h
  | 4, _ => exact h
  | 5, _ => exact h
theorem flipC_t (S : SH) (f t : Nat) : (fun a => (flipC S f t).2.2.2 a t) = b_flip (fun a => S.2.2.2 a t) f := by
  funext a
  show (if a = f ∧ t = t then !S.2.2.2 a t else S.2.2.2 a t) = if a = f then !S.2.2.2 a t else S.2.2.2 a t
  by_cases e : a = f
  · rw [if_pos ⟨e, rfl⟩, if_pos e]
  · rw [if_neg (fun z => e z.1), if_neg e]
theorem flipC_f (S : SH) (f t : Nat) : (fun b => (flipC S f t).2.2.2 f b) = b_flip (fun b => S.2.2.2 f b) t := by
  funext b
  show (if f = f ∧ b = t then !S.2.2.2 f b else S.2.2.2 f b) = if b = t then !S.2.2.2 f b else S.2.2.2 f b
  by_cases e : b = t
  · rw [if_pos ⟨rfl, e⟩, if_pos e]
  · rw [if_neg (fun z => e z.2), if_neg e]
theorem flipC_o (S : SH) {f t b : Nat} (h : b ≠ t) : (fun a => (flipC S f t).2.2.2 a b) = fun a => S.2.2.2 a b := by
  funext a
  exact if_neg (fun z => h z.2)
theorem flipC_p (S : SH) {f t a : Nat} (h : a ≠ f) : (fun b => (flipC S f t).2.2.2 a b) = fun b => S.2.2.2 a b := by
  funext b
  exact if_neg (fun z => h z.1)
theorem relC_flip {B f t : Nat} {D : m_D} {S : SH} (hf : f < 4) (ht : t < 6) (h : relC B D S) : relC B (m_up D (B + 6) t (D (B + 6) t ^^^ (1 <<< (nI f &&& 31)))) (flipC S f t) := by
  obtain ⟨h1, h2, h3, h4, h5⟩ := h
  have e : ∀ i, i < 6 → m_up D (B + 6) t (D (B + 6) t ^^^ (1 <<< (nI f &&& 31))) (B + i) = D (B + i) := fun i hi => m_up_ne (by omega)
  have e0 := e 0 (by omega)
  refine ⟨by rw [show B = B + 0 from rfl, e0]; exact h1, by rw [show B = B + 0 from rfl, e0]; exact h2, fun l hl => ?_, fun c hc => ?_, fun b hb => ?_⟩
  · rw [e 1 (by omega), e 2 (by omega)]
    exact h3 l hl
  · rw [e 3 (by omega), e 4 (by omega), e 5 (by omega)]
    exact h4 c hc
  · by_cases eb : b = t
    · subst eb
      rw [m_up_s, flipC_t, h5 b hb, b_flip4 _ hf]
    · rw [m_up_n eb, flipC_o S eb]
      exact h5 b hb
theorem relM_flip {f t : Nat} {D : m_D} {S : SH} (hf : f < 4) (ht : t < 6) (h : relM D S) : relM (m_up D 40 f (D 40 f ^^^ (1 <<< (nI t &&& 31)))) (flipC S f t) := by
  obtain ⟨h1, h2, h3, h4, h5⟩ := h
  refine ⟨h1, h2, h3, h4, fun a ha => ?_⟩
  by_cases ea : a = f
  · subst ea
    rw [m_up_s, flipC_f, h5 a ha, b_flip6 _ ht]
  · rw [m_up_n ea, flipC_p S ea]
    exact h5 a ha
theorem c_turn {L d B f t : Nat} {D : m_D} {Q : m_K} (hB : B = 1 ∨ B = 8) (ht : t < 6) (h : Q none (m_up D (B + 6) t (D (B + 6) t ^^^ (1 <<< (nI f &&& 31))))) : m_call L (d + 1) 16 [.ref B, .int (nI f), .int (nI t)] D Q := by
  have hcl : (nI t).toNatClampNeg = t := nI_clamp (by omega)
  have hin : vp_in (nI t) 6 := vp_in_nI (by omega) (by omega)
  rcases hB with rfl | rfl
  all_goals
    refine v_in (tb' := t_X2_turnCough) (rk' := 0) rfl rfl rfl ?_
    refine v_go rfl ?_
    refine v_sd rfl hin ?_
    rw [hcl]
    refine v_go rfl ?_
    refine v_sd rfl hin ?_
    rw [hcl]
    exact v_rt rfl trivial h
theorem c_coughed {L d f t : Nat} {D : m_D} {S : SH} {Q : m_K} (hr : relM D S) (hf : f < 4) (ht : t < 6) (h : Q (some (.int (if (flipC S f t).2.2.2 f t then 1 else 0))) (m_up D 40 f (D 40 f ^^^ (1 <<< (nI t &&& 31))))) : m_call L (d + 1) 121 [.ref 34, .int (nI f), .int (nI t)] D Q := by
  have hcl : (nI f).toNatClampNeg = f := nI_clamp (by omega)
  have hin : vp_in (nI f) 4 := vp_in_nI (by omega) (by omega)
  have hb := (relM_flip hf ht hr).2.2.2.2 f hf
  refine v_in (tb' := t_X5_coughed) (rk' := 1) rfl rfl rfl ?_
  refine v_go rfl ?_
  refine v_sd rfl hin ?_
  rw [hcl]
  refine v_go rfl ?_
  refine v_sd rfl hin ?_
  rw [hcl]
  refine v_go rfl ?_
  refine v_sd rfl hin ?_
  rw [hcl, hb]
  refine v_go rfl ?_
  rw [b_bit6 _ ht]
  exact v_rt rfl trivial h
theorem okS_flip {S : SH} {f t : Nat} (h : okS S) : okS (flipC S f t) := h
/-- refusals of calls on a field, the reference's order -/
theorem s_cough (x y : Int32) : StepI 35 122 [.int x, .int y] := by
  intro L Z hz
  obtain ⟨S, rd, sh, tr, fl⟩ := Z
  have hoS : okS S := hz.1
  have hn6 : S.1 ≤ 6 := hoS.1
  have hnk : S.1 = 0 ↔ S.2.1 = 0 := hz.2.1
  have hk3 : S.2.1 ≤ 3 := hoS.2.1
  by_cases hx : vp_in x 4
  · by_cases hy : vp_in y 6
    · by_cases hn : S.1 = 0
      · have hk : S.2.1 = 0 := hnk.mp hn
        refine ⟨-3, (S, rd, sh, tr, fl), hz, fun D Q hI h => ?_, fun D Q hI h => ?_⟩
        · refine v_in (tb' := t_X4_cough) (rk' := 1) rfl rfl rfl ?_
          refine v_go rfl ?_
          refine v_ca rfl ?_
          refine c_isHour (fun _ => ?_) (fun z => absurd hy z)
          refine v_ca rfl ?_
          refine c_refusalOf hI.1.1 hn6 (fun z => absurd hx z) (fun _ z => absurd z (by decide)) (fun _ _ _ => ?_) (fun _ _ z => absurd hn z)
          refine v_go rfl ?_
          refine v_bF rfl (by decide) ?_
          exact v_go rfl (v_rt rfl trivial (h _ (frC.refl _) hI))
        · have r2 : D 34 2 = nI 0 := by rw [← hk]; exact hI.1.2.1
          refine v_in (tb' := t_X5_cough) (rk' := 1) rfl rfl rfl ?_
          refine v_go rfl ?_
          refine v_ca rfl ?_
          refine c_noField (fun _ => ?_) (fun z => absurd hx z)
          refine v_go rfl ?_
          refine v_bT rfl (by decide) ?_
          refine v_go rfl ?_
          refine v_ca rfl ?_
          refine c_isHourM (fun _ => ?_) (fun z => absurd hy z)
          refine v_go rfl ?_
          refine v_bT rfl (by decide) ?_
          refine v_go rfl ?_
          rw [r2]
          refine v_bF rfl (fun z => z rfl) ?_
          exact v_go rfl (v_rt rfl trivial (h _ (frM.refl _) hI))
      · have hk : S.2.1 ≠ 0 := fun z => hn (hnk.mpr z)
        obtain ⟨f, hf, rfl⟩ := vp_in_of hx (by omega)
        obtain ⟨t, ht, rfl⟩ := vp_in_of hy (by omega)
        refine ⟨if (flipC S f t).2.2.2 f t then 1 else 0, (flipC S f t, rd, sh, tr, fl), okZ_S hz (okS_flip hoS) rfl rfl, fun D Q hI h => ?_, fun D Q hI h => ?_⟩
        · refine v_in (tb' := t_X4_cough) (rk' := 1) rfl rfl rfl ?_
          refine v_go rfl ?_
          refine v_ca rfl ?_
          refine c_isHour (fun _ => ?_) (fun z => absurd hy z)
          refine v_ca rfl ?_
          refine c_refusalOf hI.1.1 hn6 (fun z => absurd hx z) (fun _ z => absurd z (by decide)) (fun _ _ z => absurd z hn) (fun _ _ _ => ?_)
          refine v_go rfl ?_
          refine v_bT rfl rfl ?_
          refine v_go rfl ?_
          refine v_ca rfl ?_
          refine c_turn (B := 1) (Or.inl rfl) ht ?_
          have hr2 := relC_flip (B := 1) hf ht hI.1
          have hI2 := InvC_S (S' := flipC S f t) hI hr2 (fun a ha => m_up_ne (by omega))
          have hfr2 : frC D (m_up D (1 + 6) t (D (1 + 6) t ^^^ (1 <<< (nI f &&& 31)))) := (frC.refl _).up (by omega)
          generalize m_up D (1 + 6) t (D (1 + 6) t ^^^ (1 <<< (nI f &&& 31))) = D2 at hr2 hI2 hfr2
          refine v_go rfl ?_
          refine v_ca rfl ?_
          refine c_coughs (B := 1) (Or.inl rfl) hr2 hf ht (fun hg => ?_) (fun hg => ?_)
          · rw [hg] at h
            refine v_go rfl ?_
            refine v_bF rfl (by decide) ?_
            exact v_go rfl (v_rt rfl trivial (h _ hfr2 hI2))
          · rw [hg] at h
            refine v_go rfl ?_
            refine v_bT rfl rfl ?_
            exact v_go rfl (v_rt rfl trivial (h _ hfr2 hI2))
        · have r2 : D 34 2 = nI S.2.1 := hI.1.2.1
          refine v_in (tb' := t_X5_cough) (rk' := 1) rfl rfl rfl ?_
          refine v_go rfl ?_
          refine v_ca rfl ?_
          refine c_noField (fun _ => ?_) (fun z => absurd hx z)
          refine v_go rfl ?_
          refine v_bT rfl (by decide) ?_
          refine v_go rfl ?_
          refine v_ca rfl ?_
          refine c_isHourM (fun _ => ?_) (fun z => absurd hy z)
          refine v_go rfl ?_
          refine v_bT rfl (by decide) ?_
          refine v_go rfl ?_
          rw [r2]
          refine v_bT rfl (nI_ne0 (by omega) (by omega)) ?_
          refine v_go rfl ?_
          refine v_ca rfl ?_
          refine c_coughed hI.1 hf ht ?_
          exact v_rt rfl trivial (h _ ((frM.refl _).up (by omega)) (InvM_S hI (relM_flip hf ht hI.1) (fun a ha => m_up_ne (by omega)) (fun _ _ => rfl)))
    · refine ⟨-2, (S, rd, sh, tr, fl), hz, fun D Q hI h => ?_, fun D Q hI h => ?_⟩
      · refine v_in (tb' := t_X4_cough) (rk' := 1) rfl rfl rfl ?_
        refine v_go rfl ?_
        refine v_ca rfl ?_
        refine c_isHour (fun z => absurd z hy) (fun _ => ?_)
        refine v_ca rfl ?_
        refine c_refusalOf hI.1.1 hn6 (fun z => absurd hx z) (fun _ _ => ?_) (fun _ z => absurd rfl z) (fun _ z => absurd rfl z)
        refine v_go rfl ?_
        refine v_bF rfl (by decide) ?_
        exact v_go rfl (v_rt rfl trivial (h _ (frC.refl _) hI))
      · refine v_in (tb' := t_X5_cough) (rk' := 1) rfl rfl rfl ?_
        refine v_go rfl ?_
        refine v_ca rfl ?_
        refine c_noField (fun _ => ?_) (fun z => absurd hx z)
        refine v_go rfl ?_
        refine v_bT rfl (by decide) ?_
        refine v_go rfl ?_
        refine v_ca rfl ?_
        refine c_isHourM (fun z => absurd z hy) (fun _ => ?_)
        refine v_go rfl ?_
        refine v_bF rfl (by decide) ?_
        exact v_go rfl (v_rt rfl trivial (h _ (frM.refl _) hI))
  · refine ⟨-1, (S, rd, sh, tr, fl), hz, fun D Q hI h => ?_, fun D Q hI h => ?_⟩
    · refine v_in (tb' := t_X4_cough) (rk' := 1) rfl rfl rfl ?_
      refine v_go rfl ?_
      refine v_ca rfl ?_
      refine c_isHour (fun hy => ?_) (fun hy => ?_)
      all_goals
        refine v_ca rfl ?_
        refine c_refusalOf hI.1.1 hn6 (fun _ => ?_) (fun z => absurd z hx) (fun z => absurd z hx) (fun z => absurd z hx)
        refine v_go rfl ?_
        refine v_bF rfl (by decide) ?_
        exact v_go rfl (v_rt rfl trivial (h _ (frC.refl _) hI))
    · refine v_in (tb' := t_X5_cough) (rk' := 1) rfl rfl rfl ?_
      refine v_go rfl ?_
      refine v_ca rfl ?_
      refine c_noField (fun z => absurd z hx) (fun _ => ?_)
      refine v_go rfl ?_
      refine v_bF rfl (by decide) ?_
      exact v_go rfl (v_rt rfl trivial (h _ (frM.refl _) hI))
