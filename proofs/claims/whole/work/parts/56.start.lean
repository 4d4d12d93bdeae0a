set_option maxRecDepth 100000 in
theorem kw_74 : Cond.instantiable "RainRead" 10 ∈ m_TB := m_TB_of 76 rfl rfl
set_option maxRecDepth 100000 in
theorem kw_75 : Cond.instantiable "RainReadModel" 34 ∈ m_TB := m_TB_of 622 rfl rfl
set_option maxRecDepth 100000 in
theorem kw_76 : Cond.classLink "RainReadLaw" 7 "RainRead" ∈ m_TB := m_TB_of 75 rfl rfl
set_option maxRecDepth 100000 in
theorem kw_77 : Cond.initialized "RainRead" ∈ m_TB := m_TB_of 65 rfl rfl
set_option maxRecDepth 100000 in
theorem kw_78 : Cond.code ky4 prog_1_method_1_code 2 none ∈ m_TB := m_TB_of 79 rfl rfl
set_option maxRecDepth 100000 in
theorem kw_79 : Cond.methodLink "RainReadLaw" 9 ky4 ∈ m_TB := m_TB_of 77 rfl rfl
set_option maxRecDepth 100000 in
theorem kw_80 : Cond.instanceMethod ky4 ∈ m_TB := m_TB_of 78 rfl rfl
set_option maxRecDepth 100000 in
theorem kw_81 : Cond.classLink "RainReadLaw" 10 "RainReadModel" ∈ m_TB := m_TB_of 621 rfl rfl
set_option maxRecDepth 100000 in
theorem kw_82 : Cond.initialized "RainReadModel" ∈ m_TB := m_TB_of 70 rfl rfl
set_option maxRecDepth 100000 in
theorem kw_83 : Cond.code ky5 prog_7_method_1_code 2 none ∈ m_TB := m_TB_of 625 rfl rfl
set_option maxRecDepth 100000 in
theorem kw_84 : Cond.methodLink "RainReadLaw" 12 ky5 ∈ m_TB := m_TB_of 623 rfl rfl
set_option maxRecDepth 100000 in
theorem kw_85 : Cond.instanceMethod ky5 ∈ m_TB := m_TB_of 624 rfl rfl
set_option maxRecDepth 100000 in
set_option maxHeartbeats 4000000 in
theorem whole_start {p : Program} {e : Env} {s : State} {m : MethodId} {below : List Frame} {meth : Method} {c : Code} (l : Launch) (hflags : l.flags = flags0) {b L : Nat} {xs : Nat → Int32} (hL : L ≤ 3072) (C0 : lw_At p s m meth c b L xs) : W p l e room_1 s m #[Value.ref b] below meth c s.heap [] 0 0 (lw_Z below #[Value.ref b] s) (entryFrame m ([Value.ref b] : List Value).toArray 4) := by
  obtain ⟨hx, hb, hr, hml, hown, hts1, hX, hbl, hlocks, hgv⟩ := id C0
  have hown : s.vm.findClass "RainReadLaw" = some m.cls := hown
  have hts : ∀ w ∈ m_TB, w.before #[Value.ref b] s = true := fun w h => hts1 w (List.mem_filter.mp h).1
  obtain ⟨A, hAe⟩ : ∃ A : Nat → Prop, A = fun q : Nat => s.heap.size ≤ q := ⟨_, rfl⟩
  have hA : ∀ q : Nat, s.heap.size ≤ q → A q := fun q h => by rw [hAe]; exact h
  have hbA : ¬ A b := by rw [hAe]; exact Nat.not_le.mpr hbl
  obtain ⟨c0, i0, K0⟩ := u_known (C := "RainRead$Fall") (T := m_T0) (N := 8) (n := 8) hts uw_0 (hts _ kw_29)
  obtain ⟨c1, i1, K1⟩ := u_known (C := "RainRead$Sheet") (T := m_T1) (N := 4) (n := 4) hts uw_1 (hts _ kw_44)
  obtain ⟨c2, i2, K2⟩ := u_known (C := "RainRead$Shower") (T := m_T2) (N := 8) (n := 8) hts uw_2 (hts _ kw_22)
  obtain ⟨c3, i3, K3⟩ := u_known (C := "RainRead$TextReader") (T := m_T3) (N := 3) (n := 3) hts uw_3 (hts _ kw_35)
  obtain ⟨c4, i4, K4⟩ := u_known (C := "RainRead") (T := m_T4) (N := 10) (n := 10) hts uw_4 (hts _ kw_74)
  obtain ⟨c5, i5, K5⟩ := u_known (C := "RainReadModel") (T := m_T5) (N := 34) (n := 34) hts uw_5 (hts _ kw_75)
  obtain ⟨dC, dI, hKc⟩ : ∃ (dC : Nat → ClassId) (dI : Nat → Nat → Nat), ∀ (k : Nat) (q : vw_C), m_cl[k]? = some q → u_Kn s q.1 q.2.1 q.2.2 (dC k) (dI k) := by
    refine ⟨fun k => if k = 0 then c0 else if k = 1 then c1 else if k = 2 then c2 else if k = 3 then c3 else if k = 4 then c4 else c5, fun k => if k = 0 then i0 else if k = 1 then i1 else if k = 2 then i2 else if k = 3 then i3 else if k = 4 then i4 else i5, ?_⟩
    intro k q hq
    match k, hq with
    | 0, hq => cases hq; exact K0
    | 1, hq => cases hq; exact K1
    | 2, hq => cases hq; exact K2
    | 3, hq => cases hq; exact K3
    | 4, hq => cases hq; exact K4
    | 5, hq => cases hq; exact K5
    | k + 6, hq => simp [m_cl] at hq
  obtain ⟨cI, kI, pI, e1, e2, e3⟩ := Cond.arrayClass_spec (hts _ kw_2)
  have hov : (Cond.arrayOver (.object "RainRead$Sheet")).before #[Value.ref b] s = true := hts1 _ (List.mem_of_getElem? (i := 190) rfl)
  obtain ⟨comp, cR, kR, f1, f2, f3, f4, f5⟩ := Cond.arrayOver_spec hov
  have hn2 : va_Nw (.methodLinkNest "RainRead" 11 ky2 "RainRead") s := va_Nw.of rfl (hts1 _ (List.mem_of_getElem? (i := 85) rfl))
  have hn0 : va_Nw (.methodLinkNest "RainRead" 23 ky0 "RainRead") s := va_Nw.of rfl (hts1 _ (List.mem_of_getElem? (i := 136) rfl))
  have hn3 : va_Nw (.methodLinkNest "RainRead" 30 ky3 "RainRead") s := va_Nw.of rfl (hts1 _ (List.mem_of_getElem? (i := 175) rfl))
  have hn1 : va_Nw (.methodLinkNest "RainRead" 48 ky1 "RainRead") s := va_Nw.of rfl (hts1 _ (List.mem_of_getElem? (i := 192) rfl))
  have hnest : k_nest s := ⟨hn2, hn0, hn3, hn1, va_AO.of hov⟩
  have hK : va_K (dC, dI) m_cl (m_tys cI cR) s := by
    refine ⟨hKc, fun k q h => ?_⟩
    match k, h with
    | 0, h =>
      cases h
      exact ⟨fun n z => ⟨(fun k h => by cases h), kI, e2, pI, e3⟩, e1⟩
    | 1, h =>
      cases h
      exact ⟨fun n z => ⟨(fun k h => by cases h), kR, f3, comp, f4⟩, kR, comp, f3, f4, f1, f5⟩
    | k + 2, h => simp [m_tys] at h
  have hS : va_S A s.heap s.heap [] := va_S.rf
  have hP : va_P (dC, dI) m_cl [] s.heap := fun k q h => by simp at h
  have hD : va_D A [] := ⟨fun i j p q h => by simp at h, fun k q h => by simp at h⟩
  have hl := lv_entry ([.ref b]) (n := 4) (Nat.le_of_ble_eq_true rfl)
  rw [lg_entry_eq]
  generalize (lg_sl ([.ref b]) ++ List.replicate (4 - (lg_sl ([.ref b])).length) Slot.unset).toArray = ls at hl ⊢
  have hl : lv_has ls 4 [(0, .ref b)] := hl
  refine va_new (ci := 4) (fs := [.null, .null, .null, .null, .null, .null, .null, .int 0, .int 0, .int 0]) (C := "RainRead") (T := m_T4) (N := 10) hx hb hts uw_4 m_y4 ty_4 hown (hts _ kw_76) (hts _ kw_74) (hts _ kw_77) hK hP hD hS hA rfl (by decide +kernel) (Nat.le_of_ble_eq_true rfl) (Nat.le_of_ble_eq_true rfl) kd_L_0 (fun x H hP hD hS => ?_)
  have hP : va_P (dC, dI) m_cl [(x, .inr (4, [.null, .null, .null, .null, .null, .null, .null, .int 0, .int 0, .int 0]))] H := hP
  have hD : va_D A [(x, .inr (4, [.null, .null, .null, .null, .null, .null, .null, .int 0, .int 0, .int 0]))] := hD
  refine W.widen (k := 1) (n := 10) (Nat.le_of_ble_eq_true rfl) (Nat.le_of_ble_eq_true rfl) ?_
  refine lv_dup hx hb kd_L_3 rfl ?_
  have hFc := va_free (wc := [(x, .inr (4, [.null, .null, .null, .null, .null, .null, .null, .int 0, .int 0, .int 0]))]) hD hS hA [0] rfl
  refine va_callv (va_runI (As := []) (rest := [.ref x]) ⟨hx, hb, hml, hown, hts⟩ (k_X4 l dC dI cI cR x H.size) (cwI 0 hts (k_good kw_78) rfl rfl rfl (hts _ kw_77) (hts _ kw_79) (hts _ kw_80) rfl (by decide +kernel) ⟨Nat.le_of_ble_eq_true rfl, Nat.le_of_ble_eq_true rfl⟩) ⟨k_blind4, fun U hU hW => ⟨rfl, by rw [hU], by rw [hU]; exact hP, va_K.moved hW.alike hK, hD.weaken (fun _ _ _ _ => trivial), k_nest.moved hW hnest⟩⟩ rfl rfl hl.1 rfl (lv_room (Nat.le_of_ble_eq_true rfl)) kd_L_4 ⟨Nat.le_of_ble_eq_true rfl, Nat.le_of_ble_eq_true rfl⟩) hS (fun q _ h => hFc q h) hFc (fun _ t H1 locs ht hvm _ hB hz1 hk1 hS => ?_)
  obtain ⟨zn, zn_1, zn_2, zn_3, zn_4, zn_5, zn_6, zt, zt_1, zt_2, zt_3, zt_4, zt_5, zt_6, zf, zf_1, zf_2, zf_3, zf_4, zf_5, zr, zr_1, sh, s0, s0_1, s1, s1_1, s2, s2_1, s3, s3_1, ra, rb, hP1, hD1⟩ := hB
  rw [ht] at hP1
  obtain ⟨hP, hD⟩ := va_join (wr := []) (w1 := k_w4 cI cR x zn zn_1 zn_2 zn_3 zn_4 zn_5 zn_6 zt zt_1 zt_2 zt_3 zt_4 zt_5 zt_6 zf zf_1 zf_2 zf_3 zf_4 zf_5 zr zr_1 sh s0 s0_1 s1 s1_1 s2 s2_1 s3 s3_1 ra rb) hP hD [0] [] rfl rfl (by decide) (by decide) hk1 hFc hP1 hD1
  generalize H1 = H at hP hS ⊢
  have hP : va_P (dC, dI) m_cl (k_w4 cI cR x zn zn_1 zn_2 zn_3 zn_4 zn_5 zn_6 zt zt_1 zt_2 zt_3 zt_4 zt_5 zt_6 zf zf_1 zf_2 zf_3 zf_4 zf_5 zr zr_1 sh s0 s0_1 s1 s1_1 s2 s2_1 s3 s3_1 ra rb) H := hP
  have hD : va_D A (k_w4 cI cR x zn zn_1 zn_2 zn_3 zn_4 zn_5 zn_6 zt zt_1 zt_2 zt_3 zt_4 zt_5 zt_6 zf zf_1 zf_2 zf_3 zf_4 zf_5 zr zr_1 sh s0 s0_1 s1 s1_1 s2 s2_1 s3 s3_1 ra rb) := hD
  refine W.widen (k := 34) (n := 473) (Nat.le_of_ble_eq_true rfl) (Nat.le_of_ble_eq_true rfl) ?_
  refine lv_astore_n (lv' := [(1, .ref x), (0, .ref b)]) hx hb kd_L_7 rfl hl (by decide) rfl (fun ls hl => ?_)
  refine va_new (ci := 5) (fs := [.int 0, .int 0, .int 0, .null, .null, .null, .null, .null, .null, .int 0, .int 0, .int 0, .null, .null, .null, .null, .null, .null, .null, .null, .null, .null, .int 0, .null, .null, .null, .int 0, .null, .null, .null, .null, .null, .null, .int 0]) (C := "RainReadModel") (T := m_T5) (N := 34) hx hb hts uw_5 m_y5 ty_5 hown (hts _ kw_81) (hts _ kw_75) (hts _ kw_82) hK hP hD hS hA rfl (by decide +kernel) (Nat.le_of_ble_eq_true rfl) (Nat.le_of_ble_eq_true rfl) kd_L_8 (fun y H hP hD hS => ?_)
  have hP : va_P (dC, dI) m_cl (k_w4 cI cR x zn zn_1 zn_2 zn_3 zn_4 zn_5 zn_6 zt zt_1 zt_2 zt_3 zt_4 zt_5 zt_6 zf zf_1 zf_2 zf_3 zf_4 zf_5 zr zr_1 sh s0 s0_1 s1 s1_1 s2 s2_1 s3 s3_1 ra rb ++ [(y, .inr (5, [.int 0, .int 0, .int 0, .null, .null, .null, .null, .null, .null, .int 0, .int 0, .int 0, .null, .null, .null, .null, .null, .null, .null, .null, .null, .null, .int 0, .null, .null, .null, .int 0, .null, .null, .null, .null, .null, .null, .int 0]))]) H := hP
  have hD : va_D A (k_w4 cI cR x zn zn_1 zn_2 zn_3 zn_4 zn_5 zn_6 zt zt_1 zt_2 zt_3 zt_4 zt_5 zt_6 zf zf_1 zf_2 zf_3 zf_4 zf_5 zr zr_1 sh s0 s0_1 s1 s1_1 s2 s2_1 s3 s3_1 ra rb ++ [(y, .inr (5, [.int 0, .int 0, .int 0, .null, .null, .null, .null, .null, .null, .int 0, .int 0, .int 0, .null, .null, .null, .null, .null, .null, .null, .null, .null, .null, .int 0, .null, .null, .null, .int 0, .null, .null, .null, .null, .null, .null, .int 0]))]) := hD
  refine W.widen (k := 35) (n := 507) (Nat.le_of_ble_eq_true rfl) (Nat.le_of_ble_eq_true rfl) ?_
  refine lv_dup hx hb kd_L_11 rfl ?_
  have hPc := hP.sub (ws' := [(y, .inr (5, [.int 0, .int 0, .int 0, .null, .null, .null, .null, .null, .null, .int 0, .int 0, .int 0, .null, .null, .null, .null, .null, .null, .null, .null, .null, .null, .int 0, .null, .null, .null, .int 0, .null, .null, .null, .null, .null, .null, .int 0]))]) [34] rfl
  have hDc := hD.sub (ws' := [(y, .inr (5, [.int 0, .int 0, .int 0, .null, .null, .null, .null, .null, .null, .int 0, .int 0, .int 0, .null, .null, .null, .null, .null, .null, .null, .null, .null, .null, .int 0, .null, .null, .null, .int 0, .null, .null, .null, .null, .null, .null, .int 0]))]) [34] (by decide) rfl
  have hFc := va_free (wc := [(y, .inr (5, [.int 0, .int 0, .int 0, .null, .null, .null, .null, .null, .null, .int 0, .int 0, .int 0, .null, .null, .null, .null, .null, .null, .null, .null, .null, .null, .int 0, .null, .null, .null, .int 0, .null, .null, .null, .null, .null, .null, .int 0]))]) hD hS hA [34] rfl
  refine va_callv (va_runI (As := []) (rest := [.ref y]) ⟨hx, hb, hml, hown, hts⟩ (k_X5 l dC dI cI cR y H.size) (cwI 0 hts (k_good kw_83) rfl rfl rfl (hts _ kw_82) (hts _ kw_84) (hts _ kw_85) rfl (by decide +kernel) ⟨Nat.le_of_ble_eq_true rfl, Nat.le_of_ble_eq_true rfl⟩) ⟨k_blind, fun U hU hW => ⟨rfl, by rw [hU], by rw [hU]; exact hPc, va_K.moved hW.alike hK, hDc.weaken (fun _ _ _ _ => trivial)⟩⟩ rfl rfl hl.1 rfl (lv_room (Nat.le_of_ble_eq_true rfl)) kd_L_12 ⟨Nat.le_of_ble_eq_true rfl, Nat.le_of_ble_eq_true rfl⟩) hS (fun q _ h => hFc q h) hFc (fun _ t H1 locs ht hvm _ hB hz1 hk1 hS => ?_)
  obtain ⟨q1, q2, q3, q4, q5, q6, q7, q8, q9, q10, q11, q12, q13, q14, q15, q16, q17, q18, q19, q20, q21, q22, q23, q24, q25, hP1, hD1⟩ := hB
  rw [ht] at hP1
  obtain ⟨hP, hD⟩ := va_join (wr := k_w4 cI cR x zn zn_1 zn_2 zn_3 zn_4 zn_5 zn_6 zt zt_1 zt_2 zt_3 zt_4 zt_5 zt_6 zf zf_1 zf_2 zf_3 zf_4 zf_5 zr zr_1 sh s0 s0_1 s1 s1_1 s2 s2_1 s3 s3_1 ra rb) (w1 := k_w5 cI y q1 q2 q3 q4 q5 q6 q7 q8 q9 q10 q11 q12 q13 q14 q15 q16 q17 q18 q19 q20 q21 q22 q23 q24 q25) hP hD [34] [0, 1, 2, 3, 4, 5, 6, 7, 8, 9, 10, 11, 12, 13, 14, 15, 16, 17, 18, 19, 20, 21, 22, 23, 24, 25, 26, 27, 28, 29, 30, 31, 32, 33] rfl rfl (by decide) (by decide) hk1 hFc hP1 hD1
  generalize H1 = H at hP hS ⊢
  refine W.widen (k := 60) (n := 936) (Nat.le_of_ble_eq_true rfl) (Nat.le_of_ble_eq_true rfl) ?_
  rw [k_world cI cR xs x zn zn_1 zn_2 zn_3 zn_4 zn_5 zn_6 zt zt_1 zt_2 zt_3 zt_4 zt_5 zt_6 zf zf_1 zf_2 zf_3 zf_4 zf_5 zr zr_1 sh s0 s0_1 s1 s1_1 s2 s2_1 s3 s3_1 ra rb y q1 q2 q3 q4 q5 q6 q7 q8 q9 q10 q11 q12 q13 q14 q15 q16 q17 q18 q19 q20 q21 q22 q23 q24 q25 b] at hP hD
  refine lv_astore_n (lv' := [(2, .ref y), (1, .ref x), (0, .ref b)]) hx hb kd_L_15 rfl hl (by decide) rfl (fun ls hl => ?_)
  obtain ⟨ad, had⟩ : ∃ ad, ad = k_ad [x, zn, zn_1, zn_2, zn_3, zn_4, zn_5, zn_6, zt, zt_1, zt_2, zt_3, zt_4, zt_5, zt_6, zf, zf_1, zf_2, zf_3, zf_4, zf_5, zr, zr_1, sh, s0, s0_1, s1, s1_1, s2, s2_1, s3, s3_1, ra, rb, y, q1, q2, q3, q4, q5, q6, q7, q8, q9, q10, q11, q12, q13, q14, q15, q16, q17, q18, q19, q20, q21, q22, q23, q24, q25, b] := ⟨_, rfl⟩
  have a60 : ad 60 = b := by rw [had]; rfl
  have a0 : ad 0 = x := by rw [had]; rfl
  have a34 : ad 34 = y := by rw [had]; rfl
  rw [← had] at hP hD
  have hLR : m_LR ad ls 4 [some (.ref 60), some (.ref 0), some (.ref 34), none] := by
    refine ⟨hl.1, hl.2.1, rfl, fun i v hv => ?_⟩
    match i, hv with
    | 0, hv => cases hv; show _ = some (Slot.val (.ref (ad 60))); rw [a60]; exact lv_at hl 2 rfl
    | 1, hv => cases hv; show _ = some (Slot.val (.ref (ad 0))); rw [a0]; exact lv_at hl 1 rfl
    | 2, hv => cases hv; show _ = some (Slot.val (.ref (ad 34))); rw [a34]; exact lv_at hl 0 rfl
    | 3, hv => cases hv
    | i + 4, hv => simp at hv
  have hV : m_V L 8 (fun r _ => r = some (.int 1)) t_L_law 2 (16, [some (.ref 60), some (.ref 0), some (.ref 34), none], [], D0 xs) := by
    refine v_g1 rfl (v_g1 rfl ?_)
    have h := law_loop hL (Q := fun r _ => r = some (.int 1)) (fun _ => rfl) (L + 1) 0 Z0 (D0 xs) (by omega) (by omega) okZ_0 InvC_0 InvM_0
    unfold law_l at h
    rw [show nI (6 * 0) = 0 from nI_0] at h
    exact h
  have hret : ∀ (pc : Nat) (H : Heap) (locs : List Loc) (ls : Array Slot) (r : Option Value) (D : m_D), m_isR code 2 pc r → m_Rl s dC dI cI cR ad A xs D H locs → r = some (.int 1) → W p l e room_1 s m #[Value.ref b] below meth c H locs 60 936 (lw_Z below #[Value.ref b] s) (F0 m pc ls r.toList) := by
    intro pc H locs ls r D hi hR hQ
    subst hQ
    have hdg : decode code pc = .ok (.ireturn, 1) := by
      rcases hi with ⟨_, h, _⟩ | ⟨v, _, h, _⟩ | ⟨v, h, _⟩
      · cases h
      · exact h
      · cases h
    refine va_forget (fun q hq => ?_) ?_
    · have := hR.2.2.1.2.2 q hq
      rw [hAe] at this
      exact this
    · refine W.widen (k := 600000) (n := 7302250) (Nat.le_of_ble_eq_true rfl) (Nat.le_of_ble_eq_true rfl) ?_
      exact lw_ret hx hb hr hlocks hdg
  have hck : t_L_law.all (m_ck code 9) = true := (m_and (show (t_L_law.all (m_ck code 9) && m_ckR 9 ⟨"RainReadLaw", "law", "([I)Z"⟩ 4 (some .boolean) 2 1) = true from ck_L_law)).1
  exact m_sim (R := room_1) (cells := 60) (slots := 936) (ad := ad) (A := A) (xs := xs) ⟨hx, hb, hml, hown, hts, hK⟩ hck (by rw [a60]; exact hX) (by rw [a60]; exact hbl) (by rw [a60]; exact hbA) hA ⟨Nat.le_of_ble_eq_true rfl, Nat.le_of_ble_eq_true rfl⟩ (fun _ => ⟨Nat.le_of_ble_eq_true rfl, Nat.le_of_ble_eq_true rfl⟩) (fun y as D K sz h1 h2 => ⟨7, Nat.le_of_ble_eq_true rfl, Nat.le_of_ble_eq_true rfl, m_met l dC dI cI cR ad L 7 y as D K sz h1 h2⟩) hret hV _ _ ls ⟨hP, hD, hS, D0_60⟩ hLR
