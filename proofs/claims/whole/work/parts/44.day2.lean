/-! ===== day: all of it ===== -/
theorem w64 : ∀ m, m < 21 → ((2 : Int64) * (nI m).toInt64).toInt = ((2 * m : Nat) : Int) := by decide +kernel
theorem s_day (x y u w v : Int32) : StepI 38 131 [.int x, .int y, .int u, .int w, .int v] := by
  intro L Z hz
  obtain ⟨S, rd, sh, tr, fl⟩ := Z
  have hoS : okS S := hz.1
  have hn6 : S.1 ≤ 6 := hoS.1
  have hnk : S.1 = 0 ↔ S.2.1 = 0 := hz.2.1
  have hk3 : S.2.1 ≤ 3 := hoS.2.1
  by_cases hx : vp_in x 4
  · by_cases h2 : vp_in y 3 ∧ vp_in w 21 ∧ p_ask v
    · obtain ⟨hy, hw, hv⟩ := h2
      have xpre : ∀ (D : m_D) (Q : m_K), m_V L 7 Q t_X4_day 1 (42, [some (.ref 0), some (.int x), some (.int y), some (.int u), some (.int w), some (.int v), none, none], [], m_up D 0 9 0) → m_call L 8 38 [.ref 0, .int x, .int y, .int u, .int w, .int v] D Q := by
        intro D Q hk
        refine v_in (tb' := t_X4_day) (rk' := 1) rfl rfl rfl ?_
        refine v_go rfl ?_
        refine v_ca rfl ?_
        refine c_isSheet (fun _ => ?_) (fun z => absurd hx z)
        refine v_go rfl ?_
        refine v_bT rfl (by decide) ?_
        refine v_go rfl ?_
        refine v_ca rfl ?_
        refine c_isLane (fun _ => ?_) (fun z => absurd hy z)
        refine v_go rfl ?_
        refine v_bF rfl (by decide) ?_
        refine v_go rfl ?_
        refine v_ca rfl ?_
        refine c_isWithin (n := 20) (by omega) (fun _ => ?_) (fun z => absurd hw z)
        refine v_go rfl ?_
        refine v_bF rfl (by decide) ?_
        refine v_go rfl ?_
        refine v_ca rfl ?_
        refine c_isAsked (fun _ => ?_) (fun z => absurd hv z)
        refine v_go rfl ?_
        exact v_bT rfl (by decide) hk
      have ypre : ∀ (D : m_D) (Q : m_K), m_V L 7 Q t_X5_day 1 (73, [some (.ref 34), some (.int x), some (.int y), some (.int u), some (.int w), some (.int v), none, none, none], [], D) → m_call L 8 131 [.ref 34, .int x, .int y, .int u, .int w, .int v] D Q := by
        intro D Q hk
        refine v_in (tb' := t_X5_day) (rk' := 1) rfl rfl rfl ?_
        refine v_go rfl ?_
        refine v_ca rfl ?_
        refine c_noSheet (fun _ => ?_) (fun z => absurd hx z)
        refine v_go rfl ?_
        refine v_bT rfl rfl ?_
        refine v_go rfl ?_
        refine v_ca rfl ?_
        refine c_in (fun _ _ => ?_) (fun z => absurd ((in_iff (n := 3) (by decide)).mpr hy) z)
        refine v_go rfl ?_
        refine v_bF rfl (by decide) ?_
        refine v_go rfl ?_
        refine v_ca rfl ?_
        refine c_in (fun _ _ => ?_) (fun z => absurd ((in_iff (n := 21) (by decide)).mpr hw) z)
        refine v_go rfl ?_
        refine v_bF rfl (by decide) ?_
        refine v_go rfl ?_
        refine v_ca rfl ?_
        refine c_in (fun _ _ => ?_) (fun z => ?_)
        · refine v_go rfl ?_
          exact v_bT rfl (by decide) hk
        · refine v_go rfl ?_
          refine v_bF rfl (by decide) ?_
          refine v_go rfl ?_
          refine v_ca rfl ?_
          refine c_in (fun _ _ => ?_) (fun z2 => absurd ((askM v).mpr hv) (fun q => q.elim z z2))
          refine v_go rfl ?_
          exact v_bT rfl (by decide) hk
      by_cases hn : S.1 = 0
      · have hk : S.2.1 = 0 := hnk.mp hn
        refine ⟨-3, (S, rd, sh, tr, 0), okZ_fl hz, fun D Q hI h => ?_, fun D Q hI h => ?_⟩
        · have hI0 := InvC_fl 0 hI
          have h := h (m_up D 0 9 0) ((frC.refl _).up (by omega)) hI0
          refine xpre D Q ?_
          refine v_go rfl ?_
          refine v_ca rfl ?_
          refine c_hasShower hI0.1.1 hn6 (fun z => absurd hn z) (fun _ => ?_)
          refine v_go rfl ?_
          refine v_bF rfl (by decide) ?_
          exact v_go rfl (v_rt rfl trivial h)
        · have r2 : D 34 2 = nI 0 := by rw [← hk]; exact hI.1.2.1
          refine ypre D Q ?_
          refine v_go rfl ?_
          rw [r2]
          refine v_bF rfl (fun z => z rfl) ?_
          refine v_go rfl ?_
          refine v_ca rfl ?_
          refine c_refused ?_
          exact v_rt rfl trivial (h _ ((frM.refl _).up (by omega)) (InvM_fl 0 hI))
      · have hk0 : S.2.1 ≠ 0 := fun z => hn (hnk.mpr z)
        obtain ⟨k, hk, rfl⟩ := vp_in_of hx (by omega)
        obtain ⟨m, hm, rfl⟩ := vp_in_of hw (by omega)
        have hck : (nI k).toNatClampNeg = k := nI_clamp (by omega)
        have hk4 : k = 0 ∨ k = 1 ∨ k = 2 ∨ k = 3 := by omega
        have hkk := hk
        have h60 : ∀ la n f, sh k = some (la, n, f) → n ≤ 60 := fun la n f e => (hz.2.2.2.2 k hk la n f e).2
        have e2m : 2 * nI m = nI (2 * m) := by rw [show (2 : Int32) = nI 2 from rfl, pk_mul]
        have t2m : (nI (2 * m)).toInt = ((2 * m : Nat) : Int) := nI_toInt (by omega)
        have xpre2 : ∀ (D : m_D) (Q : m_K), InvC (S, rd, sh, tr, fl) D → m_V L 7 Q t_X4_day 1 (58, [some (.ref 0), some (.int (nI k)), some (.int y), some (.int u), some (.int (nI m)), some (.int v), none, none], [.ref (24 + 2 * k)], m_up D 0 9 0) → m_call L 8 38 [.ref 0, .int (nI k), .int y, .int u, .int (nI m), .int v] D Q := by
          intro D Q hI hk2
          have hI0 := InvC_fl 0 hI
          refine xpre D Q ?_
          refine v_go rfl ?_
          refine v_ca rfl ?_
          refine c_hasShower hI0.1.1 hn6 (fun _ => ?_) (fun z => absurd z hn)
          refine v_go rfl ?_
          refine v_bT rfl (by decide) ?_
          refine v_go rfl ?_
          refine v_al rfl hx (fun q hq => ?_)
          have hq := al_q hk hq
          subst hq
          exact hk2
        have ypre2 : ∀ (D : m_D) (Q : m_K), InvM (S, rd, sh, tr, fl) D → m_call L 7 106 [.ref 34, .int (nI k), .int y, .int u, .long (2 * (nI m).toInt64)] D (fun r D' => m_V L 7 Q t_X5_day 1 (m_beh 101 [some (.ref 34), some (.int (nI k)), some (.int y), some (.int u), some (.int (nI m)), some (.int v), none, none, none] [] r D')) → m_call L 8 131 [.ref 34, .int (nI k), .int y, .int u, .int (nI m), .int v] D Q := by
          intro D Q hI hk2
          have r2 : D 34 2 = nI S.2.1 := hI.1.2.1
          refine ypre D Q ?_
          refine v_go rfl ?_
          rw [r2]
          refine v_bT rfl (nI_ne0 (by omega) (by omega)) ?_
          refine v_go rfl ?_
          exact v_ca rfl hk2
        have hwb : ((2 : Int64) * (nI m).toInt64).toInt < 2 ^ 40 ∧ -2 ^ 40 < ((2 : Int64) * (nI m).toInt64).toInt := by
          rw [w64 m hm]
          omega
        cases hs : sh k with
        | none =>
          refine ⟨-10 - 1, (S, rd, sh, tr, 1), okZ_fl hz, fun D Q hI h => ?_, fun D Q hI h => ?_⟩
          · have hsk : shC k (m_up D 0 9 0) (sh k) := (InvC_fl 0 hI).2.2.2.1 k hk
            have h := h (m_up D 0 9 1) ((frC.refl _).up (by omega)) (InvC_fl _ hI)
            refine xpre2 D Q hI ?_
            rcases hk4 with rfl | rfl | rfl | rfl
            all_goals
              refine v_go rfl ?_
              refine v_ca rfl ?_
              refine c_taking hkk hsk (fun _ => ?_) (fun a b c e => by rw [hs] at e; cases e) (fun a b c e => by rw [hs] at e; cases e)
              refine v_go rfl ?_
              refine v_bF rfl (by decide) ?_
              refine v_go rfl ?_
              refine v_ca rfl ?_
              refine c_faulted ?_
              rw [m_up_ii]
              exact v_rt rfl trivial h
          · have hsk : shM k D (sh k) := hI.2.2.2.1 k hk
            refine ypre2 D Q hI ?_
            refine c_cellsBarred hk hsk h60 hwb (fun _ => ?_) (fun a b c e => by rw [hs] at e; cases e) (fun a b c e => by rw [hs] at e; cases e) (fun a b c e => by rw [hs] at e; cases e) (fun a b c e => by rw [hs] at e; cases e)
            refine v_go rfl ?_
            refine v_bF rfl (by decide) ?_
            exact v_go rfl (v_rt rfl trivial (h _ ((frM.refl _).up (by omega)) (InvM_fl _ hI)))
        | some s0 =>
          obtain ⟨la, n, f⟩ := s0
          have hn60 := h60 la n f hs
          by_cases hlw : nI la = y
          · by_cases hr : rng u ((2 * m : Nat) : Int) n
            · obtain ⟨a, b, rfl, hb, hab⟩ := rng_of (i := u) (w := nI (2 * m)) (n := n) (by rw [t2m]; exact hr) (by omega)
              have hb : 2 * m = b := (nI_eq (by omega) (by omega)).mp hb
              subst hb
              have xpre3 : ∀ (D : m_D) (Q : m_K), InvC (S, rd, sh, tr, fl) D → m_call L 7 39 [.ref 0, .ref (24 + 2 * k), .int (nI a), .int (nI m)] (m_up D 0 9 0) (fun r D' => m_V L 7 Q t_X4_day 1 (m_beh 108 [some (.ref 0), some (.int (nI k)), some (.int y), some (.int (nI a)), some (.int (nI m)), some (.int v), some (.ref (24 + 2 * k)), some (.int 0)] [] r D')) → m_call L 8 38 [.ref 0, .int (nI k), .int y, .int (nI a), .int (nI m), .int v] D Q := by
                intro D Q hI hk2
                have hsk : shC k (m_up D 0 9 0) (sh k) := (InvC_fl 0 hI).2.2.2.1 k hk
                have hsk2 := hsk
                rw [hs] at hsk2
                obtain ⟨k1, k2, k3, k4⟩ := hsk2
                refine xpre2 D Q hI ?_
                rcases hk4 with rfl | rfl | rfl | rfl
                all_goals
                  refine v_go rfl ?_
                  refine v_ca rfl ?_
                  refine c_taking hkk hsk (fun e => by rw [hs] at e; cases e) (fun a b c e _ => ?_) (fun a b c e z => by rw [hs] at e; cases e; exact absurd hlw z)
                  refine v_go rfl ?_
                  refine v_bT rfl rfl ?_
                  refine v_go rfl ?_
                  rw [e2m]
                  refine v_ca rfl ?_
                  refine c_hasCells hkk k3 hn60 (fun _ => ?_) (fun z => absurd (by rw [t2m]; exact hr) z)
                  refine v_go rfl ?_
                  refine v_bT rfl (by decide) ?_
                  refine v_go rfl ?_
                  exact v_ca rfl hk2
              have ylp : ∀ (D : m_D) (Q : m_K) (g : Nat → Int32), (∀ i, i < n → D 58 (60 * k + i) = g i) → (allA g a m → m_V L 7 Q t_X5_day 1 (174, [some (.ref 34), some (.int (nI k)), some (.int y), some (.int (nI a)), some (.int (nI m)), some (.int v), some (.int 0), some (.int (nI (60 * k + a))), some (.int (nI m))], [], D)) → (¬ allA g a m → Q (some (.int (-2))) (m_up D 34 0 0)) → m_V L 7 Q t_X5_day 1 (111, [some (.ref 34), some (.int (nI k)), some (.int y), some (.int (nI a)), some (.int (nI m)), some (.int v), some (.int 0), none, none], [], D) := by
                intro D Q g hg hy1 hy0
                have e60 : (60 : Int32) * nI k + nI a = nI (60 * k + a) := by rw [show (60 : Int32) = nI 60 from rfl, pk_mul, nI_add]
                have key : ∀ (q p : Nat), p + q = m → allA g a p → m_V L 7 Q t_X5_day 1 (122, [some (.ref 34), some (.int (nI k)), some (.int y), some (.int (nI a)), some (.int (nI m)), some (.int v), some (.int 0), some (.int (nI (60 * k + a))), some (.int (nI p))], [], D) := by
                  intro q
                  induction q with
                  | zero =>
                    intro p hq hp
                    have hq : p = m := by omega
                    subst hq
                    refine v_go rfl ?_
                    refine v_bT rfl (Int32.le_refl _) ?_
                    exact hy1 hp
                  | succ q ih =>
                    intro p hq hp
                    have i1 : vp_in (nI (60 * k + a + 2 * p)) 240 := vp_in_nI (by omega) (by omega)
                    have c1 : (nI (60 * k + a + 2 * p)).toNatClampNeg = 60 * k + a + 2 * p := nI_clamp (by omega)
                    have i2 : vp_in (nI (60 * k + a + 2 * p + 1)) 240 := vp_in_nI (by omega) (by omega)
                    have c2 : (nI (60 * k + a + 2 * p + 1)).toNatClampNeg = 60 * k + a + 2 * p + 1 := nI_clamp (by omega)
                    have s1 : D 58 (60 * k + a + 2 * p) = g (a + 2 * p) := by
                      rw [Nat.add_assoc]
                      exact hg _ (by omega)
                    have s2 : D 58 (60 * k + a + 2 * p + 1) = g (a + 2 * p + 1) := by
                      rw [Nat.add_assoc, Nat.add_assoc, ← Nat.add_assoc a]
                      exact hg _ (by omega)
                    refine v_go rfl ?_
                    refine v_bF rfl (nI_ge (by omega) (by omega)) ?_
                    refine v_go rfl ?_
                    rw [ix2]
                    refine v_sd rfl i1 ?_
                    rw [c1, s1]
                    refine v_go rfl ?_
                    rw [ix3]
                    refine v_sd rfl i2 ?_
                    rw [c2, s2]
                    refine v_ca rfl ?_
                    refine c_isAsTold (fun z => ?_) (fun z => ?_)
                    · have ih := ih (p + 1) (by omega) (fun p' hp' => by
                        by_cases e : p' = p
                        · rw [e]
                          exact z
                        · exact hp p' (by omega))
                      rw [← nI_1] at ih
                      refine v_go rfl ?_
                      refine v_bT rfl (by decide) ?_
                      exact v_run 2 rfl ih
                    · refine v_go rfl ?_
                      refine v_bF rfl (by decide) ?_
                      refine v_go rfl ?_
                      refine v_ca rfl ?_
                      refine c_refused ?_
                      exact v_rt rfl trivial (hy0 (fun y => z (y p (by omega))))
                have k0 := key m 0 (by omega) (fun p hp => absurd hp (by omega))
                rw [← e60] at k0
                exact v_run 8 rfl k0
              have ypre3 : ∀ (D : m_D) (Q : m_K), InvM (S, rd, sh, tr, fl) D → m_V L 7 Q t_X5_day 1 (111, [some (.ref 34), some (.int (nI k)), some (.int y), some (.int (nI a)), some (.int (nI m)), some (.int v), some (.int 0), none, none], [], D) → m_call L 8 131 [.ref 34, .int (nI k), .int y, .int (nI a), .int (nI m), .int v] D Q := by
                intro D Q hI hk2
                have hsk : shM k D (sh k) := hI.2.2.2.1 k hk
                refine ypre2 D Q hI ?_
                refine c_cellsBarred hk hsk h60 hwb (fun e => by rw [hs] at e; cases e) (fun a b c e z => by rw [hs] at e; cases e; exact absurd hlw z) (fun a b c e _ z => absurd z (by rw [w64 m hm]; omega)) (fun a b c e _ _ z => ?_) (fun a b c e _ _ => ?_)
                · rw [hs] at e
                  cases e
                  exact absurd (by rw [w64 m hm]; exact hr) z
                · refine v_go rfl ?_
                  exact v_bT rfl (by decide) hk2
              by_cases hA : allA f a m
              · have hd : okS (p_dy S (cA f a) m).1 ∧ sameS (p_dy S (cA f a) m).1 S ∧ ∀ p, (p_dy S (cA f a) m).2 = some p → p < m := by
                  have g : ∀ q, q ≤ m → okS (p_dy S (cA f a) q).1 ∧ sameS (p_dy S (cA f a) q).1 S ∧ ∀ p, (p_dy S (cA f a) q).2 = some p → p < q := by
                    intro q
                    induction q with
                    | zero =>
                      intro _
                      exact ⟨hoS, ⟨rfl, rfl, fun _ _ _ => rfl⟩, fun p e => by cases e⟩
                    | succ q ih =>
                      intro hq
                      obtain ⟨i1, i2, i3⟩ := ih (by omega)
                      cases e : p_dy S (cA f a) q with
                      | mk S1 wr =>
                        rw [e] at i1 i2 i3
                        cases wr with
                        | some p0 =>
                          rw [p_dy_w e 1]
                          exact ⟨i1, i2, fun p z => by have := i3 p z; omega⟩
                        | none =>
                          obtain ⟨-, -, hok⟩ := act_ok (hA q (by omega))
                          cases e2 : p_do S1 (cA f a q).1 (cA f a q).2 with
                          | none =>
                            rw [p_dy_n e e2]
                            exact ⟨i1, i2, fun p z => by cases z; omega⟩
                          | some S2 =>
                            rw [p_dy_s e e2]
                            have h3 := p_do_ok i1 hok e2
                            exact ⟨h3.1, h3.2.trans i2, fun p z => by cases z⟩
                  exact g m (Nat.le_refl _)
                obtain ⟨hd1, hd2, hd3⟩ := hd
                refine ⟨sp_day (p_dy S (cA f a) m).1 (p_dy S (cA f a) m).2 v, (S, rd, sh, tr, 0), okZ_fl hz, fun D Q hI h => ?_, fun D Q hI h => ?_⟩
                · have hI0 := InvC_fl 0 hI
                  have hsk : shC k (m_up D 0 9 0) (sh k) := hI0.2.2.2.1 k hk
                  rw [hs] at hsk
                  obtain ⟨k1, k2, k3, k4⟩ := hsk
                  refine xpre3 D Q hI ?_
                  refine c_areActs hk hn60 hab k4 (fun _ => ?_) (fun z => absurd hA z)
                  refine v_go rfl ?_
                  refine v_bT rfl (by decide) ?_
                  refine v_go rfl ?_
                  refine v_ca rfl ?_
                  refine c_firstWrong hk hn60 hab k4 hI0.1 hoS hA (fun D2 hf2 hr2 => ?_)
                  refine v_go rfl ?_
                  refine v_ca rfl ?_
                  refine c_answerOfDay hd1 (fun p e => by have := hd3 p e; omega) hr2 hv (fun D3 hf3 => ?_)
                  have hfa := (fT hf2).trans (fF hf3)
                  exact v_rt rfl trivial (h D3 (((frC.refl D).up (by omega)).trans (frC_FT hfa)) (InvC_FT hI0 hfa))
                · have hsk : shM k D (sh k) := hI.2.2.2.1 k hk
                  rw [hs] at hsk
                  obtain ⟨k1, k2, k3⟩ := hsk
                  refine ypre3 D Q hI ?_
                  refine ylp D Q f k3 (fun _ => ?_) (fun z => absurd hA z)
                  refine v_go rfl ?_
                  refine v_ca rfl ?_
                  refine c_keeps hI.1 hoS (fun D1 hf1 hh1 => ?_)
                  have hr1 := relM_keep hf1 (by decide) (by decide) hI.1
                  have e58 : D1 58 = D 58 := hf1.1 58 (by simp) (by decide)
                  refine v_go rfl ?_
                  refine v_ca rfl ?_
                  refine c_dayOf (by omega) (by omega) (fun i hi => by rw [e58]; exact k3 i (by omega)) hr1 hoS hA hv (fun D2 hf2 hr2 => ?_)
                  have hh2 : relH D2 S := relH_keep hh1 hf2 (by decide)
                  refine v_go rfl ?_
                  refine v_ca rfl ?_
                  refine c_brings hr2 hoS hd2.1 hd2.2.1 hd2.2.2 hh2 (fun D3 hf3 hr3 => ?_)
                  have hfa : m_fM z_MT [22] D D3 := ((mtK hf1).trans (hf2.sub (by simp) (by simp))).trans (mtV hf3)
                  refine v_go rfl ?_
                  refine v_ca rfl ?_
                  refine c_refused ?_
                  exact v_rt rfl trivial (h _ ((frM_MT hfa).up (by omega)) (InvM_fl 0 (InvM_MT hI hr3 hfa)))
              · refine ⟨-2, (S, rd, sh, tr, 0), okZ_fl hz, fun D Q hI h => ?_, fun D Q hI h => ?_⟩
                · have hI0 := InvC_fl 0 hI
                  have hsk : shC k (m_up D 0 9 0) (sh k) := hI0.2.2.2.1 k hk
                  rw [hs] at hsk
                  obtain ⟨k1, k2, k3, k4⟩ := hsk
                  refine xpre3 D Q hI ?_
                  refine c_areActs hk hn60 hab k4 (fun z => absurd z hA) (fun _ => ?_)
                  refine v_go rfl ?_
                  refine v_bF rfl (by decide) ?_
                  exact v_go rfl (v_rt rfl trivial (h _ ((frC.refl D).up (by omega)) hI0))
                · have hsk : shM k D (sh k) := hI.2.2.2.1 k hk
                  rw [hs] at hsk
                  obtain ⟨k1, k2, k3⟩ := hsk
                  refine ypre3 D Q hI ?_
                  exact ylp D Q f k3 (fun z => absurd z hA) (fun _ => h _ ((frM.refl _).up (by omega)) (InvM_fl 0 hI))
            · refine ⟨-10 - 3, (S, rd, sh, tr, 3), okZ_fl hz, fun D Q hI h => ?_, fun D Q hI h => ?_⟩
              · have hsk : shC k (m_up D 0 9 0) (sh k) := (InvC_fl 0 hI).2.2.2.1 k hk
                have hsk2 := hsk
                rw [hs] at hsk2
                obtain ⟨k1, k2, k3, k4⟩ := hsk2
                have h := h (m_up D 0 9 3) ((frC.refl _).up (by omega)) (InvC_fl _ hI)
                refine xpre2 D Q hI ?_
                rcases hk4 with rfl | rfl | rfl | rfl
                all_goals
                  refine v_go rfl ?_
                  refine v_ca rfl ?_
                  refine c_taking hkk hsk (fun e => by rw [hs] at e; cases e) (fun a b c e _ => ?_) (fun a b c e z => by rw [hs] at e; cases e; exact absurd hlw z)
                  refine v_go rfl ?_
                  refine v_bT rfl rfl ?_
                  refine v_go rfl ?_
                  rw [e2m]
                  refine v_ca rfl ?_
                  refine c_hasCells hkk k3 hn60 (fun z => absurd (by rw [t2m] at z; exact z) hr) (fun _ => ?_)
                  refine v_go rfl ?_
                  refine v_bF rfl (by decide) ?_
                  refine v_go rfl ?_
                  refine v_ca rfl ?_
                  refine c_faulted ?_
                  rw [m_up_ii]
                  exact v_rt rfl trivial h
              · have hsk : shM k D (sh k) := hI.2.2.2.1 k hk
                refine ypre2 D Q hI ?_
                refine c_cellsBarred hk hsk h60 hwb (fun e => by rw [hs] at e; cases e) (fun a b c e z => by rw [hs] at e; cases e; exact absurd hlw z) (fun a b c e _ z => absurd z (by rw [w64 m hm]; omega)) (fun a b c e _ _ z => ?_) (fun a b c e _ z => ?_)
                · refine v_go rfl ?_
                  refine v_bF rfl (by decide) ?_
                  exact v_go rfl (v_rt rfl trivial (h _ ((frM.refl _).up (by omega)) (InvM_fl _ hI)))
                · rw [hs] at e
                  cases e
                  rw [w64 m hm] at z
                  exact absurd z hr
          · refine ⟨-10 - 2, (S, rd, sh, tr, 2), okZ_fl hz, fun D Q hI h => ?_, fun D Q hI h => ?_⟩
            · have hsk : shC k (m_up D 0 9 0) (sh k) := (InvC_fl 0 hI).2.2.2.1 k hk
              have h := h (m_up D 0 9 2) ((frC.refl _).up (by omega)) (InvC_fl _ hI)
              refine xpre2 D Q hI ?_
              rcases hk4 with rfl | rfl | rfl | rfl
              all_goals
                refine v_go rfl ?_
                refine v_ca rfl ?_
                refine c_taking hkk hsk (fun e => by rw [hs] at e; cases e) (fun a b c e z => by rw [hs] at e; cases e; exact absurd z hlw) (fun a b c e z => ?_)
                refine v_go rfl ?_
                refine v_bF rfl (by decide) ?_
                refine v_go rfl ?_
                refine v_ca rfl ?_
                refine c_faulted ?_
                rw [m_up_ii]
                exact v_rt rfl trivial h
            · have hsk : shM k D (sh k) := hI.2.2.2.1 k hk
              refine ypre2 D Q hI ?_
              refine c_cellsBarred hk hsk h60 hwb (fun e => by rw [hs] at e; cases e) (fun a b c e z => ?_) (fun a b c e z => by rw [hs] at e; cases e; exact absurd z hlw) (fun a b c e z => by rw [hs] at e; cases e; exact absurd z hlw) (fun a b c e z => by rw [hs] at e; cases e; exact absurd z hlw)
              refine v_go rfl ?_
              refine v_bF rfl (by decide) ?_
              exact v_go rfl (v_rt rfl trivial (h _ ((frM.refl _).up (by omega)) (InvM_fl _ hI)))
    · refine ⟨-2, (S, rd, sh, tr, 0), okZ_fl hz, fun D Q hI h => ?_, fun D Q hI h => ?_⟩
      · have h := h (m_up D 0 9 0) ((frC.refl _).up (by omega)) (InvC_fl 0 hI)
        refine v_in (tb' := t_X4_day) (rk' := 1) rfl rfl rfl ?_
        refine v_go rfl ?_
        refine v_ca rfl ?_
        refine c_isSheet (fun _ => ?_) (fun z => absurd hx z)
        refine v_go rfl ?_
        refine v_bT rfl (by decide) ?_
        refine v_go rfl ?_
        refine v_ca rfl ?_
        refine c_isLane (fun z1 => ?_) (fun _ => ?_)
        · refine v_go rfl ?_
          refine v_bF rfl (by decide) ?_
          refine v_go rfl ?_
          refine v_ca rfl ?_
          refine c_isWithin (n := 20) (by omega) (fun z2 => ?_) (fun _ => ?_)
          · refine v_go rfl ?_
            refine v_bF rfl (by decide) ?_
            refine v_go rfl ?_
            refine v_ca rfl ?_
            refine c_isAsked (fun z3 => absurd ⟨z1, z2, z3⟩ h2) (fun _ => ?_)
            refine v_go rfl ?_
            refine v_bF rfl (by decide) ?_
            exact v_go rfl (v_rt rfl trivial h)
          · refine v_go rfl ?_
            refine v_bT rfl rfl ?_
            exact v_go rfl (v_rt rfl trivial h)
        · refine v_go rfl ?_
          refine v_bT rfl rfl ?_
          exact v_go rfl (v_rt rfl trivial h)
      · have h := h _ ((frM.refl _).up (by omega)) (InvM_fl 0 hI)
        have tail : m_V L 7 Q t_X5_day 1 (66, [some (.ref 34), some (.int x), some (.int y), some (.int u), some (.int w), some (.int v), none, none, none], [], D) := by
          refine v_go rfl ?_
          refine v_ca rfl ?_
          refine c_refused ?_
          exact v_rt rfl trivial h
        refine v_in (tb' := t_X5_day) (rk' := 1) rfl rfl rfl ?_
        refine v_go rfl ?_
        refine v_ca rfl ?_
        refine c_noSheet (fun _ => ?_) (fun z => absurd hx z)
        refine v_go rfl ?_
        refine v_bT rfl rfl ?_
        refine v_go rfl ?_
        refine v_ca rfl ?_
        refine c_in (fun p1 p2 => ?_) (fun _ => ?_)
        · have z1 := (in_iff (n := 3) (by decide)).mp ⟨p1, p2⟩
          refine v_go rfl ?_
          refine v_bF rfl (by decide) ?_
          refine v_go rfl ?_
          refine v_ca rfl ?_
          refine c_in (fun p1 p2 => ?_) (fun _ => ?_)
          · have z2 := (in_iff (n := 21) (by decide)).mp ⟨p1, p2⟩
            refine v_go rfl ?_
            refine v_bF rfl (by decide) ?_
            refine v_go rfl ?_
            refine v_ca rfl ?_
            refine c_in (fun p1 p2 => absurd ⟨z1, z2, (askM v).mp (Or.inl ⟨p1, p2⟩)⟩ h2) (fun _ => ?_)
            refine v_go rfl ?_
            refine v_bF rfl (by decide) ?_
            refine v_go rfl ?_
            refine v_ca rfl ?_
            refine c_in (fun p1 p2 => absurd ⟨z1, z2, (askM v).mp (Or.inr ⟨p1, p2⟩)⟩ h2) (fun _ => ?_)
            refine v_go rfl ?_
            refine v_bF rfl (by decide) ?_
            exact tail
          · refine v_go rfl ?_
            refine v_bT rfl rfl ?_
            exact tail
        · refine v_go rfl ?_
          refine v_bT rfl rfl ?_
          exact tail
  · refine ⟨-1, (S, rd, sh, tr, 0), okZ_fl hz, fun D Q hI h => ?_, fun D Q hI h => ?_⟩
    · refine v_in (tb' := t_X4_day) (rk' := 1) rfl rfl rfl ?_
      refine v_go rfl ?_
      refine v_ca rfl ?_
      refine c_isSheet (fun z => absurd z hx) (fun _ => ?_)
      refine v_go rfl ?_
      refine v_bF rfl (by decide) ?_
      exact v_go rfl (v_rt rfl trivial (h _ ((frC.refl _).up (by omega)) (InvC_fl 0 hI)))
    · refine v_in (tb' := t_X5_day) (rk' := 1) rfl rfl rfl ?_
      refine v_go rfl ?_
      refine v_ca rfl ?_
      refine c_noSheet (fun z => absurd z hx) (fun _ => ?_)
      refine v_go rfl ?_
      refine v_bF rfl (by decide) ?_
      refine v_go rfl ?_
      refine v_ca rfl ?_
      refine c_refused ?_
      exact v_rt rfl trivial (h _ ((frM.refl _).up (by omega)) (InvM_fl 0 hI))
