/-! ===== rests ===== -/
theorem rs4 : ∀ b0 b1 b2 b3 : Bool, ∀ f g w : Fin 4, f ≠ g → (((nI ((((0 + if b0 then 2 ^ 0 else 0) + if b1 then 2 ^ 1 else 0) + if b2 then 2 ^ 2 else 0) + if b3 then 2 ^ 3 else 0) &&& ((((1 : Int32) <<< (nI f.val &&& 31)) ||| ((1 : Int32) <<< (nI g.val &&& 31))) ^^^ (-1 : Int32))) ||| ((nI w.val &&& (1 : Int32)) <<< (nI f.val &&& 31))) ||| (((nI w.val >>> ((1 : Int32) &&& 31)) &&& (1 : Int32)) <<< (nI g.val &&& 31))) = nI ((((0 + if (if 0 = f.val then bitN w.val 0 else if 0 = g.val then bitN w.val 1 else b0) then 2 ^ 0 else 0) + if (if 1 = f.val then bitN w.val 0 else if 1 = g.val then bitN w.val 1 else b1) then 2 ^ 1 else 0) + if (if 2 = f.val then bitN w.val 0 else if 2 = g.val then bitN w.val 1 else b2) then 2 ^ 2 else 0) + if (if 3 = f.val then bitN w.val 0 else if 3 = g.val then bitN w.val 1 else b3) then 2 ^ 3 else 0) := by decide +kernel
def rsC (b : Nat → Bool) (f g w a : Nat) : Bool := if a = f then bitN w 0 else if a = g then bitN w 1 else b a
theorem rest4 (b : Nat → Bool) {f g w : Nat} (hf : f < 4) (hg : g < 4) (hw : w < 4) (hne : f ≠ g) : (((nI (b_sum b 4) &&& ((((1 : Int32) <<< (nI f &&& 31)) ||| ((1 : Int32) <<< (nI g &&& 31))) ^^^ (-1 : Int32))) ||| ((nI w &&& (1 : Int32)) <<< (nI f &&& 31))) ||| (((nI w >>> ((1 : Int32) &&& 31)) &&& (1 : Int32)) <<< (nI g &&& 31))) = nI (b_sum (rsC b f g w) 4) := rs4 (b 0) (b 1) (b 2) (b 3) ⟨f, hf⟩ ⟨g, hg⟩ ⟨w, hw⟩ (fun e => hne (congrArg Fin.val e))
theorem rs6a : ∀ b0 b1 b2 b3 b4 b5 : Bool, ∀ t : Fin 6, ∀ w : Fin 4, (nI ((((((0 + if b0 then 2 ^ 0 else 0) + if b1 then 2 ^ 1 else 0) + if b2 then 2 ^ 2 else 0) + if b3 then 2 ^ 3 else 0) + if b4 then 2 ^ 4 else 0) + if b5 then 2 ^ 5 else 0) &&& ((63 : Int32) - ((1 : Int32) <<< (nI t.val &&& 31)))) ||| ((nI w.val &&& (1 : Int32)) <<< (nI t.val &&& 31)) = nI ((((((0 + if (if 0 = t.val then bitN w.val 0 else b0) then 2 ^ 0 else 0) + if (if 1 = t.val then bitN w.val 0 else b1) then 2 ^ 1 else 0) + if (if 2 = t.val then bitN w.val 0 else b2) then 2 ^ 2 else 0) + if (if 3 = t.val then bitN w.val 0 else b3) then 2 ^ 3 else 0) + if (if 4 = t.val then bitN w.val 0 else b4) then 2 ^ 4 else 0) + if (if 5 = t.val then bitN w.val 0 else b5) then 2 ^ 5 else 0) := by decide +kernel
theorem rs6b : ∀ b0 b1 b2 b3 b4 b5 : Bool, ∀ t : Fin 6, ∀ w : Fin 4, (nI ((((((0 + if b0 then 2 ^ 0 else 0) + if b1 then 2 ^ 1 else 0) + if b2 then 2 ^ 2 else 0) + if b3 then 2 ^ 3 else 0) + if b4 then 2 ^ 4 else 0) + if b5 then 2 ^ 5 else 0) &&& ((63 : Int32) - ((1 : Int32) <<< (nI t.val &&& 31)))) ||| ((nI w.val >>> ((1 : Int32) &&& 31)) <<< (nI t.val &&& 31)) = nI ((((((0 + if (if 0 = t.val then bitN w.val 1 else b0) then 2 ^ 0 else 0) + if (if 1 = t.val then bitN w.val 1 else b1) then 2 ^ 1 else 0) + if (if 2 = t.val then bitN w.val 1 else b2) then 2 ^ 2 else 0) + if (if 3 = t.val then bitN w.val 1 else b3) then 2 ^ 3 else 0) + if (if 4 = t.val then bitN w.val 1 else b4) then 2 ^ 4 else 0) + if (if 5 = t.val then bitN w.val 1 else b5) then 2 ^ 5 else 0) := by decide +kernel
def rsR (b : Nat → Bool) (t : Nat) (v : Bool) (a : Nat) : Bool := if a = t then v else b a
theorem rest6a (b : Nat → Bool) {t w : Nat} (ht : t < 6) (hw : w < 4) : (nI (b_sum b 6) &&& ((63 : Int32) - ((1 : Int32) <<< (nI t &&& 31)))) ||| ((nI w &&& (1 : Int32)) <<< (nI t &&& 31)) = nI (b_sum (rsR b t (bitN w 0)) 6) := rs6a (b 0) (b 1) (b 2) (b 3) (b 4) (b 5) ⟨t, ht⟩ ⟨w, hw⟩
theorem rest6b (b : Nat → Bool) {t w : Nat} (ht : t < 6) (hw : w < 4) : (nI (b_sum b 6) &&& ((63 : Int32) - ((1 : Int32) <<< (nI t &&& 31)))) ||| ((nI w >>> ((1 : Int32) &&& 31)) <<< (nI t &&& 31)) = nI (b_sum (rsR b t (bitN w 1)) 6) := rs6b (b 0) (b 1) (b 2) (b 3) (b 4) (b 5) ⟨t, ht⟩ ⟨w, hw⟩
def rsS (S : SH) (f g t w : Nat) : SH := (S.1, S.2.1, S.2.2.1, fun a b => if b = t then rsC (fun a => S.2.2.2 a t) f g w a else S.2.2.2 a b)
theorem okS_rs {S : SH} {f g t w : Nat} (ho : okS S) : okS (rsS S f g t w) := ho
def trR (S : SH) (t : Nat) (D : m_D) : Prop := ∃ cg, relC 8 D (S.1, S.2.1, S.2.2.1, cg) ∧ ∀ a b, b ≠ t → cg a b = S.2.2.2 a b
theorem relC_rs {S : SH} {f g t w : Nat} {D : m_D} (h : trR S t D) : relC 8 (m_up D 14 t (nI (b_sum (rsC (fun a => S.2.2.2 a t) f g w) 4))) (rsS S f g t w) := by
  obtain ⟨cg, ⟨h1, h2, h3, h4, h5⟩, hc⟩ := h
  refine ⟨h1, h2, h3, h4, fun b hb => ?_⟩
  by_cases e : b = t
  · have e1 : (fun a => (rsS S f g t w).2.2.2 a b) = rsC (fun a => S.2.2.2 a t) f g w := by
      funext a
      exact if_pos e
    rw [e1, e]
    exact m_up_s
  · have e1 : (fun a => (rsS S f g t w).2.2.2 a b) = fun a => cg a b := by
      funext a
      rw [hc a b e]
      exact if_neg e
    rw [e1]
    exact (m_up_n e).trans (h5 b hb)
theorem trR_0 {S : SH} {t : Nat} {D : m_D} (h : relC 8 D S) : trR S t D := ⟨S.2.2.2, h, fun _ _ _ => rfl⟩
theorem trR_F {S : SH} {f g t w : Nat} {D D' : m_D} (hf : m_fr z_F D D') (h : relC 8 D (rsS S f g t w)) : trR S t D' := ⟨_, relC_c (fun i hi => hf _ (z_F_B (Or.inr rfl) i hi)) h, fun a b hb => if_neg hb⟩
theorem c_coughIn {L d f g t w : Nat} {S : SH} {D : m_D} {Q : m_K} (hr1 : relC 1 D S) (ht : trR S t D) (ho : okS S) (hf4 : f < 4) (hg4 : g < 4) (hfg : f ≠ g) (ht6 : t < 6) (hw : w < 4) (h : ∀ D', m_fr z_FT D D' → trR S t D' → (∀ a, a < 4 → D' 20 a = nI (p_wet (rsS S f g t w) a S.1)) → Q none D') : m_call L (d + 5) 55 [.ref 0, .int (nI f), .int (nI g), .int (nI t), .int (nI w)] D Q := by
  have hin : vp_in (nI t) 6 := vp_in_nI (by omega) (by omega)
  have hcl : (nI t).toNatClampNeg = t := nI_clamp (by omega)
  have e7 : D 7 t = nI (b_sum (fun a => S.2.2.2 a t) 4) := hr1.2.2.2.2 t ht6
  refine v_in (tb' := t_X4_coughInTrial) (rk' := 0) rfl rfl rfl ?_
  refine v_go rfl ?_
  refine v_sd rfl hin ?_
  rw [hcl, e7]
  refine v_go rfl ?_
  refine v_sd rfl hin ?_
  rw [hcl, rest4 _ hf4 hg4 hw hfg]
  refine v_go rfl ?_
  refine v_ca rfl ?_
  have hr2 : relC 8 (m_up D 14 t (nI (b_sum (rsC (fun a => S.2.2.2 a t) f g w) 4))) (rsS S f g t w) := relC_rs ht
  refine c_workOut (Or.inr rfl) hr2 (okS_rs ho) (fun D3 hf3 hF => ?_)
  have hf0 : m_fr z_FT D D := m_fr.refl _ _
  exact v_rt rfl trivial (h D3 ((hf0.up (by simp)).trans (fF hf3)) (trR_F hf3 hr2) hF.2.2.1)
def p_pain (S : SH) (f g t w a : Nat) : Nat := p_wet (rsS S f g t w) a S.1 + (if (rsS S f g t w).2.2.2 a t = true then 2 else 0)
theorem rs_f (S : SH) (f g t w : Nat) : (rsS S f g t w).2.2.2 f t = bitN w 0 := by
  show (if t = t then rsC (fun a => S.2.2.2 a t) f g w f else S.2.2.2 f t) = bitN w 0
  rw [if_pos rfl]
  exact if_pos rfl
theorem rs_g (S : SH) {f g : Nat} (t w : Nat) (h : f ≠ g) : (rsS S f g t w).2.2.2 g t = bitN w 1 := by
  show (if t = t then rsC (fun a => S.2.2.2 a t) f g w g else S.2.2.2 g t) = bitN w 1
  rw [if_pos rfl]
  show (if g = f then bitN w 0 else if g = g then bitN w 1 else _) = _
  rw [if_neg (fun e => h e.symm), if_pos rfl]
theorem w_and1 : ∀ w, w < 4 → (nI w &&& (1 : Int32)) = if bitN w 0 = true then 1 else 0 := by decide +kernel
theorem w_and2 : ∀ w, w < 4 → (nI w &&& (2 : Int32)) = if bitN w 1 = true then 2 else 0 := by decide +kernel
theorem w_x1 : ∀ w, w < 4 → nI w ^^^ (1 : Int32) = nI (w ^^^ 1) ∧ w ^^^ 1 < 4 := by decide +kernel
theorem w_x2 : ∀ w, w < 4 → nI w ^^^ (2 : Int32) = nI (w ^^^ 2) ∧ w ^^^ 2 < 4 := by decide +kernel
theorem pain_le {S : SH} (ho : okS S) (f g t w a : Nat) : p_pain S f g t w a ≤ 104 := by
  have h : p_wet (rsS S f g t w) a S.1 ≤ 102 := p_wet_102 (okS_rs ho) a
  unfold p_pain
  split <;> omega
theorem c_pain1 {L d f g t w : Nat} {S : SH} {D : m_D} {Q : m_K} (hr1 : relC 1 D S) (ht : trR S t D) (ho : okS S) (hf4 : f < 4) (hg4 : g < 4) (hfg : f ≠ g) (ht6 : t < 6) (hw : w < 4) (h : ∀ D', m_fr z_FT D D' → trR S t D' → Q (some (.int (nI (p_pain S f g t w f)))) D') : m_call L (d + 6) 53 [.ref 0, .int (nI f), .int (nI g), .int (nI t), .int (nI w)] D Q := by
  have hin : vp_in (nI f) 4 := vp_in_nI (by omega) (by omega)
  have hcl : (nI f).toNatClampNeg = f := nI_clamp (by omega)
  refine v_in (tb' := t_X4_painOfFirst) (rk' := 1) rfl rfl rfl ?_
  refine v_go rfl ?_
  refine v_ca rfl ?_
  refine c_coughIn hr1 ht ho hf4 hg4 hfg ht6 hw (fun D2 hf2 ht2 hF => ?_)
  have h := h D2 hf2 ht2
  unfold p_pain at h
  rw [rs_f, ← nI_add] at h
  refine v_go rfl ?_
  refine v_sd rfl hin ?_
  rw [hcl, hF f hf4]
  refine v_go rfl ?_
  rw [w_and1 w hw]
  cases hb : bitN w 0 with
  | true =>
    rw [hb] at h
    refine v_bF rfl (fun z => z rfl) ?_
    exact v_go rfl (v_rt rfl trivial h)
  | false =>
    rw [hb] at h
    refine v_bT rfl (by decide) ?_
    exact v_go rfl (v_rt rfl trivial h)
theorem c_pain2 {L d f g t w : Nat} {S : SH} {D : m_D} {Q : m_K} (hr1 : relC 1 D S) (ht : trR S t D) (ho : okS S) (hf4 : f < 4) (hg4 : g < 4) (hfg : f ≠ g) (ht6 : t < 6) (hw : w < 4) (h : ∀ D', m_fr z_FT D D' → trR S t D' → Q (some (.int (nI (p_pain S f g t w g)))) D') : m_call L (d + 6) 54 [.ref 0, .int (nI f), .int (nI g), .int (nI t), .int (nI w)] D Q := by
  have hin : vp_in (nI g) 4 := vp_in_nI (by omega) (by omega)
  have hcl : (nI g).toNatClampNeg = g := nI_clamp (by omega)
  refine v_in (tb' := t_X4_painOfSecond) (rk' := 1) rfl rfl rfl ?_
  refine v_go rfl ?_
  refine v_ca rfl ?_
  refine c_coughIn hr1 ht ho hf4 hg4 hfg ht6 hw (fun D2 hf2 ht2 hF => ?_)
  have h := h D2 hf2 ht2
  unfold p_pain at h
  rw [rs_g S t w hfg, ← nI_add] at h
  refine v_go rfl ?_
  refine v_sd rfl hin ?_
  rw [hcl, hF g hg4]
  refine v_go rfl ?_
  rw [w_and2 w hw]
  cases hb : bitN w 1 with
  | true =>
    rw [hb] at h
    refine v_bF rfl (fun z => z rfl) ?_
    exact v_go rfl (v_rt rfl trivial h)
  | false =>
    rw [hb] at h
    refine v_bT rfl (by decide) ?_
    exact v_go rfl (v_rt rfl trivial h)
def p_rs (S : SH) (f g t : Nat) : Nat → Int32
  | 0 => 0
  | w + 1 => p_rs S f g t w ||| (if p_pain S f g t w f ≤ p_pain S f g t (w ^^^ 1) f ∧ p_pain S f g t w g ≤ p_pain S f g t (w ^^^ 2) g then (1 : Int32) <<< (nI w &&& 31) else (0 : Int32))
theorem x_rests {L f g t : Nat} {S : SH} {D : m_D} {Q : m_K} (hr : relC 1 D S) (ho : okS S) (hn : S.1 ≠ 0) (hf4 : f < 4) (hg4 : g < 4) (hfg : f ≠ g) (ht6 : t < 6) (h : ∀ D', m_fr z_FT D D' → Q (some (.int (p_rs S f g t 4))) D') : m_call L 8 52 [.ref 0, .int (nI f), .int (nI g), .int (nI t)] D Q := by
  have hn6 := ho.1
  have hinf : vp_in (nI f) 4 := vp_in_nI (by omega) (by omega)
  have hing : vp_in (nI g) 4 := vp_in_nI (by omega) (by omega)
  have key : ∀ (m w : Nat) (z7 z8 : Option Value) (D1 : m_D), w + m = 4 → m_fr z_FT D D1 → trR S t D1 → m_V L 7 Q t_X4_rests 1 (57, [some (.ref 0), some (.int (nI f)), some (.int (nI g)), some (.int (nI t)), some (.int 0), some (.int (p_rs S f g t w)), some (.int (nI w)), z7, z8], [], D1) := by
    intro m
    induction m with
    | zero =>
      intro w z7 z8 D1 hm hf ht
      have hm : w = 4 := by omega
      subst hm
      refine v_go rfl ?_
      refine v_bT rfl (Int32.le_refl _) ?_
      exact v_go rfl (v_rt rfl trivial (h D1 hf))
    | succ m ih =>
      intro w z7 z8 D1 hm hf ht
      have hw : w < 4 := by omega
      obtain ⟨x1, y1⟩ := w_x1 w hw
      obtain ⟨x2, y2⟩ := w_x2 w hw
      have q1 := pain_le ho f g t w f
      have q2 := pain_le ho f g t (w ^^^ 1) f
      have q3 := pain_le ho f g t w g
      have q4 := pain_le ho f g t (w ^^^ 2) g
      have e : p_rs S f g t (w + 1) = p_rs S f g t w ||| (if p_pain S f g t w f ≤ p_pain S f g t (w ^^^ 1) f ∧ p_pain S f g t w g ≤ p_pain S f g t (w ^^^ 2) g then (1 : Int32) <<< (nI w &&& 31) else (0 : Int32)) := rfl
      refine v_go rfl ?_
      refine v_bF rfl (nI_ge (b := 4) (by omega) (by omega)) ?_
      refine v_go rfl ?_
      refine v_ca rfl ?_
      refine c_pain1 (relC_FT hf hr) ht ho hf4 hg4 hfg ht6 hw (fun D2 hf2 ht2 => ?_)
      have hfa := hf.trans hf2
      refine v_go rfl ?_
      refine v_ca rfl ?_
      rw [x1]
      refine c_pain1 (relC_FT hfa hr) ht2 ho hf4 hg4 hfg ht6 y1 (fun D3 hf3 ht3 => ?_)
      have hfb := hfa.trans hf3
      refine v_go rfl ?_
      have sec : ∀ s1 : Int32, (s1 = 1 ∧ p_pain S f g t w f ≤ p_pain S f g t (w ^^^ 1) f) ∨ (s1 = 0 ∧ ¬ p_pain S f g t w f ≤ p_pain S f g t (w ^^^ 1) f) → m_V L 7 Q t_X4_rests 1 (93, [some (.ref 0), some (.int (nI f)), some (.int (nI g)), some (.int (nI t)), some (.int 0), some (.int (p_rs S f g t w)), some (.int (nI w)), some (.int s1), z8], [], D3) := by
        intro s1 hs1
        refine v_go rfl ?_
        refine v_ca rfl ?_
        refine c_pain2 (relC_FT hfb hr) ht3 ho hf4 hg4 hfg ht6 hw (fun D4 hf4' ht4 => ?_)
        have hfc := hfb.trans hf4'
        refine v_go rfl ?_
        refine v_ca rfl ?_
        rw [x2]
        refine c_pain2 (relC_FT hfc hr) ht4 ho hf4 hg4 hfg ht6 y2 (fun D5 hf5 ht5 => ?_)
        have hfd := hfc.trans hf5
        have ih := fun z8 => ih (w + 1) (some (.int s1)) z8 D5 (by omega) hfd ht5
        rw [← nI_1, e] at ih
        refine v_go rfl ?_
        by_cases g2 : p_pain S f g t w g ≤ p_pain S f g t (w ^^^ 2) g
        · refine v_bF rfl (nI_nlt (a := p_pain S f g t (w ^^^ 2) g) g2 (by omega)) ?_
          refine v_go rfl ?_
          rcases hs1 with ⟨rfl, g1⟩ | ⟨rfl, g1⟩
          · rw [if_pos ⟨g1, g2⟩] at ih
            refine v_bF rfl (by decide) ?_
            refine v_go rfl ?_
            refine v_bF rfl (by decide) ?_
            exact v_run 8 rfl (ih _)
          · rw [if_neg (fun z => g1 z.1), or0] at ih
            refine v_bT rfl rfl ?_
            exact v_run 2 rfl (ih _)
        · rw [if_neg (fun z => g2 z.2), or0] at ih
          refine v_bT rfl (nI_lt (b := p_pain S f g t w g) (by omega) (by omega)) ?_
          refine v_go rfl ?_
          rcases hs1 with ⟨rfl, g1⟩ | ⟨rfl, g1⟩
          · refine v_bF rfl (by decide) ?_
            refine v_go rfl ?_
            refine v_bT rfl rfl ?_
            exact v_run 2 rfl (ih _)
          · refine v_bT rfl rfl ?_
            exact v_run 2 rfl (ih _)
      by_cases g1 : p_pain S f g t w f ≤ p_pain S f g t (w ^^^ 1) f
      · refine v_bF rfl (nI_nlt (a := p_pain S f g t (w ^^^ 1) f) g1 (by omega)) ?_
        exact v_run 3 rfl (sec 1 (Or.inl ⟨rfl, g1⟩))
      · refine v_bT rfl (nI_lt (b := p_pain S f g t w f) (by omega) (by omega)) ?_
        exact v_run 2 rfl (sec 0 (Or.inr ⟨rfl, g1⟩))
  refine v_in (tb' := t_X4_rests) (rk' := 1) rfl rfl rfl ?_
  refine v_go rfl ?_
  refine v_ca rfl ?_
  refine c_isField (fun _ => ?_) (fun z => absurd hinf z)
  refine v_go rfl ?_
  refine v_bF rfl (by decide) ?_
  refine v_go rfl ?_
  refine v_ca rfl ?_
  refine c_isField (fun _ => ?_) (fun z => absurd hing z)
  refine v_go rfl ?_
  refine v_bF rfl (by decide) ?_
  refine v_go rfl ?_
  refine v_bT rfl (fun z => hfg ((nI_eq (by omega) (by omega)).mp z)) ?_
  refine v_go rfl ?_
  refine v_ca rfl ?_
  refine c_isHour (fun _ => ?_) (fun z => absurd (vp_in_nI (by omega) (by omega)) z)
  refine v_ca rfl ?_
  refine c_refusalOf hr.1 hn6 (fun z => absurd hinf z) (fun _ z => absurd z (by decide)) (fun _ _ z => absurd z hn) (fun _ _ _ => ?_)
  refine v_go rfl ?_
  refine v_bT rfl rfl ?_
  refine v_go rfl ?_
  refine v_ca rfl ?_
  refine c_become hr ho (fun D1 hf1 hr1 => ?_)
  exact v_run 4 rfl (key 4 0 none none D1 (by omega) (fT hf1) (trR_0 hr1))
theorem relM_rs {S : SH} {f g t w : Nat} {D : m_D} (h : relM D S) (hfg : f ≠ g) : relM (m_up (m_up D 40 f (nI (b_sum (rsR (fun b => S.2.2.2 f b) t (bitN w 0)) 6))) 40 g (nI (b_sum (rsR (fun b => S.2.2.2 g b) t (bitN w 1)) 6))) (rsS S f g t w) := by
  obtain ⟨h1, h2, h3, h4, h5⟩ := h
  refine ⟨h1, h2, h3, h4, fun a ha => ?_⟩
  by_cases eg : a = g
  · rw [eg]
    have e1 : (fun b => (rsS S f g t w).2.2.2 g b) = rsR (fun b => S.2.2.2 g b) t (bitN w 1) := by
      funext b
      show (if b = t then (if g = f then bitN w 0 else if g = g then bitN w 1 else S.2.2.2 g t) else S.2.2.2 g b) = if b = t then bitN w 1 else S.2.2.2 g b
      have k : ¬ g = f := fun e => hfg e.symm
      rw [if_neg k, if_pos rfl]
    rw [e1]
    exact m_up_s
  · by_cases ef : a = f
    · rw [ef]
      have e1 : (fun b => (rsS S f g t w).2.2.2 f b) = rsR (fun b => S.2.2.2 f b) t (bitN w 0) := by
        funext b
        show (if b = t then (if f = f then bitN w 0 else if f = g then bitN w 1 else S.2.2.2 f t) else S.2.2.2 f b) = if b = t then bitN w 0 else S.2.2.2 f b
        rw [if_pos rfl]
      rw [e1]
      exact (m_up_n hfg).trans m_up_s
    · have e1 : (fun b => (rsS S f g t w).2.2.2 a b) = fun b => S.2.2.2 a b := by
        funext b
        show (if b = t then (if a = f then bitN w 0 else if a = g then bitN w 1 else S.2.2.2 a t) else S.2.2.2 a b) = S.2.2.2 a b
        rw [if_neg ef, if_neg eg]
        by_cases eb : b = t
        · rw [if_pos eb, eb]
        · rw [if_neg eb]
      rw [e1]
      exact (m_up_n eg).trans ((m_up_n ef).trans (h5 a ha))
theorem c_painM {L d a f g t w : Nat} {S : SH} {D : m_D} {Q : m_K} (hr : relM D S) (ho : okS S) (ha4 : a < 4) (hf4 : f < 4) (hg4 : g < 4) (hfg : f ≠ g) (ht6 : t < 6) (hw : w < 4) (h : ∀ D', m_fM z_MT [22] D D' → relM D' S → Q (some (.int (nI (p_pain S f g t w a)))) D') : m_call L (d + 5) 142 [.ref 34, .int (nI a), .int (nI f), .int (nI g), .int (nI t), .int (nI w)] D Q := by
  have hinf : vp_in (nI f) 4 := vp_in_nI (by omega) (by omega)
  have hclf : (nI f).toNatClampNeg = f := nI_clamp (by omega)
  have hing : vp_in (nI g) 4 := vp_in_nI (by omega) (by omega)
  have hclg : (nI g).toNatClampNeg = g := nI_clamp (by omega)
  have ef : D 40 f = nI (b_sum (fun b => S.2.2.2 f b) 6) := hr.2.2.2.2 f hf4
  have eg : D 40 g = nI (b_sum (fun b => S.2.2.2 g b) 6) := hr.2.2.2.2 g hg4
  refine v_in (tb' := t_X5_pain) (rk' := 1) rfl rfl rfl ?_
  refine v_go rfl ?_
  refine v_sd rfl hinf ?_
  rw [hclf, ef]
  refine v_go rfl ?_
  refine v_sd rfl hing ?_
  rw [hclg, eg]
  refine v_go rfl ?_
  refine v_sd rfl hinf ?_
  rw [hclf, rest6a _ ht6 hw]
  refine v_go rfl ?_
  refine v_sd rfl hing ?_
  rw [hclg, rest6b _ ht6 hw]
  have hr2 := relM_rs (t := t) (w := w) hr hfg
  refine v_go rfl ?_
  refine v_ca rfl ?_
  refine c_wetNow hr2 (okS_rs ho) ha4 (fun D3 hf3 hF => ?_)
  have hr3 := relM_keep hf3 (by decide) (by decide) hr2
  have hf0 : m_fM z_MT [22] D D := m_fM.refl _ _ _
  have hfa := ((hf0.up (i := 40) (j := f) (v := nI (b_sum (rsR (fun b => S.2.2.2 f b) t (bitN w 0)) 6)) (by simp) (by decide)).up (i := 40) (j := g) (v := nI (b_sum (rsR (fun b => S.2.2.2 g b) t (bitN w 1)) 6)) (by simp) (by decide)).trans (mtR hf3)
  have hr4 : relM (m_up (m_up D3 40 f (nI (b_sum (fun b => S.2.2.2 f b) 6))) 40 g (nI (b_sum (fun b => S.2.2.2 g b) 6))) S := by
    obtain ⟨k1, k2, k3, k4, k5⟩ := hr3
    refine ⟨k1, k2, k3, k4, fun q hq => ?_⟩
    by_cases e1 : q = g
    · rw [e1]
      exact m_up_s
    · by_cases e2 : q = f
      · rw [e2]
        exact (m_up_n hfg).trans m_up_s
      · refine (m_up_n e1).trans ((m_up_n e2).trans ?_)
        exact ((congrFun (hf3.1 40 (by simp) (by decide)) q).trans ((m_up_n e1).trans (m_up_n e2))).trans (hr.2.2.2.2 q hq)
  have h := h _ ((hfa.up (i := 40) (j := f) (v := nI (b_sum (fun b => S.2.2.2 f b) 6)) (by simp) (by decide)).up (i := 40) (j := g) (v := nI (b_sum (fun b => S.2.2.2 g b) 6)) (by simp) (by decide)) hr4
  unfold p_pain at h
  rw [← nI_add] at h
  refine v_go rfl ?_
  refine v_ca rfl ?_
  refine c_coughsM hr3 ha4 ht6 (fun z => ?_) (fun z => ?_)
  · rw [if_pos z] at h
    refine v_go rfl ?_
    refine v_bF rfl (by decide) ?_
    refine v_go rfl ?_
    refine v_sd rfl hinf ?_
    rw [hclf]
    refine v_go rfl ?_
    refine v_sd rfl hing ?_
    rw [hclg]
    exact v_go rfl (v_rt rfl trivial h)
  · rw [z, if_neg (by decide)] at h
    refine v_go rfl ?_
    refine v_bT rfl rfl ?_
    refine v_go rfl ?_
    refine v_sd rfl hinf ?_
    rw [hclf]
    refine v_go rfl ?_
    refine v_sd rfl hing ?_
    rw [hclg]
    exact v_go rfl (v_rt rfl trivial h)
theorem y_rests {L f g t : Nat} {S : SH} {D : m_D} {Q : m_K} (hr : relM D S) (ho : okS S) (hk : S.2.1 ≠ 0) (hf4 : f < 4) (hg4 : g < 4) (hfg : f ≠ g) (ht6 : t < 6) (h : ∀ D', m_fM z_MT [22] D D' → relM D' S → Q (some (.int (p_rs S f g t 4))) D') : m_call L 8 143 [.ref 34, .int (nI f), .int (nI g), .int (nI t)] D Q := by
  have hn6 := ho.1
  have hk3 := ho.2.1
  have r2 : D 34 2 = nI S.2.1 := hr.2.1
  have hinf : vp_in (nI f) 4 := vp_in_nI (by omega) (by omega)
  have hing : vp_in (nI g) 4 := vp_in_nI (by omega) (by omega)
  have key : ∀ (m w : Nat) (z6 z7 : Option Value) (D1 : m_D), w + m = 4 → m_fM z_MT [22] D D1 → relM D1 S → m_V L 7 Q t_X5_rests 1 (47, [some (.ref 34), some (.int (nI f)), some (.int (nI g)), some (.int (nI t)), some (.int (p_rs S f g t w)), some (.int (nI w)), z6, z7], [], D1) := by
    intro m
    induction m with
    | zero =>
      intro w z6 z7 D1 hm hf hr1
      have hm : w = 4 := by omega
      subst hm
      refine v_go rfl ?_
      refine v_bT rfl (Int32.le_refl _) ?_
      exact v_go rfl (v_rt rfl trivial (h D1 hf hr1))
    | succ m ih =>
      intro w z6 z7 D1 hm hf hr1
      have hw : w < 4 := by omega
      obtain ⟨x1, y1⟩ := w_x1 w hw
      obtain ⟨x2, y2⟩ := w_x2 w hw
      have q1 := pain_le ho f g t w f
      have q2 := pain_le ho f g t (w ^^^ 1) f
      have q3 := pain_le ho f g t w g
      have q4 := pain_le ho f g t (w ^^^ 2) g
      have e : p_rs S f g t (w + 1) = p_rs S f g t w ||| (if p_pain S f g t w f ≤ p_pain S f g t (w ^^^ 1) f ∧ p_pain S f g t w g ≤ p_pain S f g t (w ^^^ 2) g then (1 : Int32) <<< (nI w &&& 31) else (0 : Int32)) := rfl
      refine v_go rfl ?_
      refine v_bF rfl (nI_ge (b := 4) (by omega) (by omega)) ?_
      refine v_go rfl ?_
      refine v_ca rfl ?_
      refine c_painM hr1 ho hf4 hf4 hg4 hfg ht6 hw (fun D2 hf2 hr2 => ?_)
      have hfa := hf.trans hf2
      refine v_go rfl ?_
      refine v_ca rfl ?_
      rw [x1]
      refine c_painM hr2 ho hf4 hf4 hg4 hfg ht6 y1 (fun D3 hf3 hr3 => ?_)
      have hfb := hfa.trans hf3
      refine v_go rfl ?_
      have sec : ∀ s1 : Int32, (s1 = 1 ∧ p_pain S f g t w f ≤ p_pain S f g t (w ^^^ 1) f) ∨ (s1 = 0 ∧ ¬ p_pain S f g t w f ≤ p_pain S f g t (w ^^^ 1) f) → m_V L 7 Q t_X5_rests 1 (85, [some (.ref 34), some (.int (nI f)), some (.int (nI g)), some (.int (nI t)), some (.int (p_rs S f g t w)), some (.int (nI w)), some (.int s1), z7], [], D3) := by
        intro s1 hs1
        refine v_go rfl ?_
        refine v_ca rfl ?_
        refine c_painM hr3 ho hg4 hf4 hg4 hfg ht6 hw (fun D4 hf4' hr4 => ?_)
        have hfc := hfb.trans hf4'
        refine v_go rfl ?_
        refine v_ca rfl ?_
        rw [x2]
        refine c_painM hr4 ho hg4 hf4 hg4 hfg ht6 y2 (fun D5 hf5 hr5 => ?_)
        have hfd := hfc.trans hf5
        have ih := fun z7 => ih (w + 1) (some (.int s1)) z7 D5 (by omega) hfd hr5
        rw [← nI_1, e] at ih
        refine v_go rfl ?_
        by_cases g2 : p_pain S f g t w g ≤ p_pain S f g t (w ^^^ 2) g
        · refine v_bF rfl (nI_nlt (a := p_pain S f g t (w ^^^ 2) g) g2 (by omega)) ?_
          refine v_go rfl ?_
          rcases hs1 with ⟨rfl, g1⟩ | ⟨rfl, g1⟩
          · rw [if_pos ⟨g1, g2⟩] at ih
            refine v_bF rfl (by decide) ?_
            refine v_go rfl ?_
            refine v_bF rfl (by decide) ?_
            exact v_run 8 rfl (ih _)
          · rw [if_neg (fun z => g1 z.1)] at ih
            refine v_bT rfl rfl ?_
            exact v_run 5 rfl (ih _)
        · rw [if_neg (fun z => g2 z.2)] at ih
          refine v_bT rfl (nI_lt (b := p_pain S f g t w g) (by omega) (by omega)) ?_
          refine v_go rfl ?_
          rcases hs1 with ⟨rfl, g1⟩ | ⟨rfl, g1⟩
          · refine v_bF rfl (by decide) ?_
            refine v_go rfl ?_
            refine v_bT rfl rfl ?_
            exact v_run 5 rfl (ih _)
          · refine v_bT rfl rfl ?_
            exact v_run 5 rfl (ih _)
      by_cases g1 : p_pain S f g t w f ≤ p_pain S f g t (w ^^^ 1) f
      · refine v_bF rfl (nI_nlt (a := p_pain S f g t (w ^^^ 1) f) g1 (by omega)) ?_
        exact v_run 3 rfl (sec 1 (Or.inl ⟨rfl, g1⟩))
      · refine v_bT rfl (nI_lt (b := p_pain S f g t w f) (by omega) (by omega)) ?_
        exact v_run 2 rfl (sec 0 (Or.inr ⟨rfl, g1⟩))
  refine v_in (tb' := t_X5_rests) (rk' := 1) rfl rfl rfl ?_
  refine v_go rfl ?_
  refine v_ca rfl ?_
  refine c_noField (fun _ => ?_) (fun z => absurd hinf z)
  refine v_go rfl ?_
  refine v_bF rfl (by decide) ?_
  refine v_go rfl ?_
  refine v_ca rfl ?_
  refine c_noField (fun _ => ?_) (fun z => absurd hing z)
  refine v_go rfl ?_
  refine v_bF rfl (by decide) ?_
  refine v_go rfl ?_
  refine v_bT rfl (fun z => hfg ((nI_eq (by omega) (by omega)).mp z)) ?_
  refine v_go rfl ?_
  refine v_ca rfl ?_
  refine c_isHourM (fun _ => ?_) (fun z => absurd (vp_in_nI (by omega) (by omega)) z)
  refine v_go rfl ?_
  refine v_bT rfl (by decide) ?_
  refine v_go rfl ?_
  rw [r2]
  refine v_bT rfl (nI_ne0 (by omega) (by omega)) ?_
  exact v_run 4 rfl (key 4 0 none none D (by omega) (m_fM.refl _ _ _) hr)
theorem s_rests (x y w : Int32) : StepI 52 143 [.int x, .int y, .int w] := by
  intro L Z hz
  obtain ⟨S, rd, sh, tr, fl⟩ := Z
  have hoS : okS S := hz.1
  have hn6 : S.1 ≤ 6 := hoS.1
  have hnk : S.1 = 0 ↔ S.2.1 = 0 := hz.2.1
  have hk3 : S.2.1 ≤ 3 := hoS.2.1
  by_cases hxy : vp_in x 4 ∧ vp_in y 4 ∧ ¬ x = y
  · obtain ⟨hx, hy, hxy⟩ := hxy
    have xpre : ∀ (D : m_D) (Q : m_K), m_V L 7 Q t_X4_rests 1 (21, [some (.ref 0), some (.int x), some (.int y), some (.int w), none, none, none, none, none], [], D) → m_call L 8 52 [.ref 0, .int x, .int y, .int w] D Q := by
      intro D Q hk
      refine v_in (tb' := t_X4_rests) (rk' := 1) rfl rfl rfl ?_
      refine v_go rfl ?_
      refine v_ca rfl ?_
      refine c_isField (fun _ => ?_) (fun z => absurd hx z)
      refine v_go rfl ?_
      refine v_bF rfl (by decide) ?_
      refine v_go rfl ?_
      refine v_ca rfl ?_
      refine c_isField (fun _ => ?_) (fun z => absurd hy z)
      refine v_go rfl ?_
      refine v_bF rfl (by decide) ?_
      refine v_go rfl ?_
      exact v_bT rfl hxy hk
    have ypre : ∀ (D : m_D) (Q : m_K), m_V L 7 Q t_X5_rests 1 (21, [some (.ref 34), some (.int x), some (.int y), some (.int w), none, none, none, none], [], D) → m_call L 8 143 [.ref 34, .int x, .int y, .int w] D Q := by
      intro D Q hk
      refine v_in (tb' := t_X5_rests) (rk' := 1) rfl rfl rfl ?_
      refine v_go rfl ?_
      refine v_ca rfl ?_
      refine c_noField (fun _ => ?_) (fun z => absurd hx z)
      refine v_go rfl ?_
      refine v_bF rfl (by decide) ?_
      refine v_go rfl ?_
      refine v_ca rfl ?_
      refine c_noField (fun _ => ?_) (fun z => absurd hy z)
      refine v_go rfl ?_
      refine v_bF rfl (by decide) ?_
      refine v_go rfl ?_
      exact v_bT rfl hxy hk
    by_cases hw : vp_in w 6
    · by_cases hn : S.1 = 0
      · have hk : S.2.1 = 0 := hnk.mp hn
        refine ⟨-3, (S, rd, sh, tr, fl), hz, fun D Q hI h => ?_, fun D Q hI h => ?_⟩
        · refine xpre D Q ?_
          refine v_go rfl ?_
          refine v_ca rfl ?_
          refine c_isHour (fun _ => ?_) (fun z => absurd hw z)
          refine v_ca rfl ?_
          refine c_refusalOf hI.1.1 hn6 (fun z => absurd hx z) (fun _ z => absurd z (by decide)) (fun _ _ _ => ?_) (fun _ _ z => absurd hn z)
          refine v_go rfl ?_
          refine v_bF rfl (by decide) ?_
          exact v_go rfl (v_rt rfl trivial (h _ (frC.refl _) hI))
        · have r2 : D 34 2 = nI 0 := by rw [← hk]; exact hI.1.2.1
          refine ypre D Q ?_
          refine v_go rfl ?_
          refine v_ca rfl ?_
          refine c_isHourM (fun _ => ?_) (fun z => absurd hw z)
          refine v_go rfl ?_
          refine v_bT rfl (by decide) ?_
          refine v_go rfl ?_
          rw [r2]
          refine v_bF rfl (fun z => z rfl) ?_
          exact v_go rfl (v_rt rfl trivial (h _ (frM.refl _) hI))
      · have hk : S.2.1 ≠ 0 := fun z => hn (hnk.mpr z)
        obtain ⟨f, hf, rfl⟩ := vp_in_of hx (by omega)
        obtain ⟨g, hg, rfl⟩ := vp_in_of hy (by omega)
        obtain ⟨t, ht, rfl⟩ := vp_in_of hw (by omega)
        have hfg : f ≠ g := fun z => hxy (by rw [z])
        refine ⟨p_rs S f g t 4, (S, rd, sh, tr, fl), hz, fun D Q hI h => ?_, fun D Q hI h => ?_⟩
        · exact x_rests hI.1 hoS hn hf hg hfg ht (fun D' hf => h D' (frC_FT hf) (InvC_FT hI hf))
        · exact y_rests hI.1 hoS hk hf hg hfg ht (fun D' hf hr => h D' (frM_MT hf) (InvM_MT hI hr hf))
    · refine ⟨-2, (S, rd, sh, tr, fl), hz, fun D Q hI h => ?_, fun D Q hI h => ?_⟩
      · refine xpre D Q ?_
        refine v_go rfl ?_
        refine v_ca rfl ?_
        refine c_isHour (fun z => absurd z hw) (fun _ => ?_)
        refine v_ca rfl ?_
        refine c_refusalOf hI.1.1 hn6 (fun z => absurd hx z) (fun _ _ => ?_) (fun _ z _ => absurd rfl z) (fun _ z _ => absurd rfl z)
        refine v_go rfl ?_
        refine v_bF rfl (by decide) ?_
        exact v_go rfl (v_rt rfl trivial (h _ (frC.refl _) hI))
      · refine ypre D Q ?_
        refine v_go rfl ?_
        refine v_ca rfl ?_
        refine c_isHourM (fun z => absurd z hw) (fun _ => ?_)
        refine v_go rfl ?_
        refine v_bF rfl (by decide) ?_
        exact v_go rfl (v_rt rfl trivial (h _ (frM.refl _) hI))
  · refine ⟨-1, (S, rd, sh, tr, fl), hz, fun D Q hI h => ?_, fun D Q hI h => ?_⟩
    · have h := h _ (frC.refl _) hI
      refine v_in (tb' := t_X4_rests) (rk' := 1) rfl rfl rfl ?_
      refine v_go rfl ?_
      refine v_ca rfl ?_
      refine c_isField (fun z1 => ?_) (fun _ => ?_)
      · refine v_go rfl ?_
        refine v_bF rfl (by decide) ?_
        refine v_go rfl ?_
        refine v_ca rfl ?_
        refine c_isField (fun z2 => ?_) (fun _ => ?_)
        · refine v_go rfl ?_
          refine v_bF rfl (by decide) ?_
          refine v_go rfl ?_
          refine v_bF rfl (fun z3 => hxy ⟨z1, z2, z3⟩) ?_
          exact v_go rfl (v_rt rfl trivial h)
        · refine v_go rfl ?_
          refine v_bT rfl rfl ?_
          exact v_go rfl (v_rt rfl trivial h)
      · refine v_go rfl ?_
        refine v_bT rfl rfl ?_
        exact v_go rfl (v_rt rfl trivial h)
    · have h := h _ (frM.refl _) hI
      refine v_in (tb' := t_X5_rests) (rk' := 1) rfl rfl rfl ?_
      refine v_go rfl ?_
      refine v_ca rfl ?_
      refine c_noField (fun z1 => ?_) (fun _ => ?_)
      · refine v_go rfl ?_
        refine v_bF rfl (by decide) ?_
        refine v_go rfl ?_
        refine v_ca rfl ?_
        refine c_noField (fun z2 => ?_) (fun _ => ?_)
        · refine v_go rfl ?_
          refine v_bF rfl (by decide) ?_
          refine v_go rfl ?_
          refine v_bF rfl (fun z3 => hxy ⟨z1, z2, z3⟩) ?_
          exact v_go rfl (v_rt rfl trivial h)
        · refine v_go rfl ?_
          refine v_bT rfl (by decide) ?_
          exact v_go rfl (v_rt rfl trivial h)
      · refine v_go rfl ?_
        refine v_bT rfl (by decide) ?_
        exact v_go rfl (v_rt rfl trivial h)
