/-! ===== the constructors of the parts: Fall, Sheet, Shower, TextReader ===== -/
abbrev k_w0 (cI : ClassId) (h0 q1 q2 q3 q4 q5 : Nat) : va_W := [(h0, .inr (0, [.ref q1, .ref q2, .ref q3, .ref q4, .ref q5, .int 0, .int 0, .int 0])), (q1, .inl (cI, 6, .inl k_z)), (q2, .inl (cI, 6, .inl k_z)), (q3, .inl (cI, 6, .inl k_z)), (q4, .inl (cI, 24, .inl k_z)), (q5, .inl (cI, 4, .inl k_z))]
def k_post0 (dC : Nat → ClassId) (dI : Nat → Nat → Nat) (cI : ClassId) (h0 sz : Nat) : Array Value → State → Outcome → State → Prop := va_Qv (fun _ : Unit => True) (fun _ t => ∃ q1 q2 q3 q4 q5 : Nat, va_P (dC, dI) m_cl (k_w0 cI h0 q1 q2 q3 q4 q5) t.heap ∧ va_D (va_A [(h0, .inr (0, [.null, .null, .null, .null, .null, .int 0, .int 0, .int 0]))] sz) (k_w0 cI h0 q1 q2 q3 q4 q5)) (va_A [(h0, .inr (0, [.null, .null, .null, .null, .null, .int 0, .int 0, .int 0]))] sz)
set_option maxHeartbeats 4000000 in
set_option maxRecDepth 100000 in
theorem k_X0 (l : Launch) (dC : Nat → ClassId) (dI : Nat → Nat → Nat) (cI cR : ClassId) (h0 sz : Nat) : Met l ky0 (k_ws ky0 prog_2_method_1_code 1) { frames := 1, cells := 5, slots := 46, locals := 12 } (k_pre dC dI cI cR h0 sz 0 [.null, .null, .null, .null, .null, .int 0, .int 0, .int 0]) (k_post0 dC dI cI h0 sz) 5 46 (va_A [(h0, .inr (0, [.null, .null, .null, .null, .null, .int 0, .int 0, .int 0]))] sz) := by
  unfold k_post0
  refine Met.ofW (cc := prog_2_method_1_code) (maxL := 1) (ret := none) (by decide) rfl ?_
  intro p e s m args below meth c s₁ B hml hv
  obtain ⟨rfl, hsz, hP, hK, hD0⟩ := hv
  have hx := B.exec
  have hb := B.bytes
  have hr := B.returns
  have hts0 := atoms_spec (ws := k_ws ky0 prog_2_method_1_code 1) B.pre
  have hts : ∀ w ∈ m_TB, w.before ([Value.ref h0] : List Value).toArray s = true := fun w h => hts0 w (List.mem_cons_of_mem _ h)
  have hown : s.vm.findClass "RainRead$Fall" = some m.cls := findClass_of_methodNamed B.named
  have hin : meth.name = "<init>" := (name_of_methodNamed B.named B.method).1
  subst hsz
  have hD := hD0.self (sz := s.heap.size)
  generalize hAe : va_A [(h0, .inr (0, [.null, .null, .null, .null, .null, .int 0, .int 0, .int 0]))] s.heap.size = A at hD ⊢
  have hA : ∀ q : Nat, s.heap.size ≤ q → A q := fun q h => by rw [← hAe]; exact Or.inr h
  have hS : va_S A s.heap s.heap [] := va_S.rf
  have hP : va_P (dC, dI) m_cl [(h0, .inr (0, [.null, .null, .null, .null, .null, .int 0, .int 0, .int 0]))] s.heap := hP
  have hl := lv_entry ([.ref h0]) (n := 1) (Nat.le_of_ble_eq_true rfl)
  rw [lg_entry_eq]
  generalize (lg_sl ([.ref h0]) ++ List.replicate (1 - (lg_sl ([.ref h0])).length) Slot.unset).toArray = ls at hl ⊢
  have hl : lv_has ls 1 [(0, .ref h0)] := hl
  refine lv_aload_n hx hb kd_X0_0 rfl (lv_at hl 0 rfl) ?_
  refine W.objInit hx hb hown (hts _ kw_3) (hts _ kw_0) (hts _ kw_1) rfl (by rw [hml]; exact hl.1) rfl kd_X0_1 (Nat.le_of_ble_eq_true rfl) (Nat.le_of_ble_eq_true rfl) ?_
  refine W.eq (g2 := F0 m 4 ls []) rfl ?_
  refine lv_aload_n hx hb kd_X0_4 rfl (lv_at hl 0 rfl) ?_
  refine lv_bipush (v := nI 6) hx hb kd_X0_5 (by decide +kernel) ?_
  refine k_arr hx hb hts uw_0 m_y0 ty_0 nn_0 hown hK hP hD hS hA rfl rfl 0 (by decide) kw_4 rfl hin rfl rfl (Nat.le_of_ble_eq_true rfl) 6 (by decide) (Nat.le_of_ble_eq_true rfl) (Nat.le_of_ble_eq_true rfl) kd_X0_7 kd_X0_9 (fun q1 H locs hP hD hS => ?_)
  have hP : va_P (dC, dI) m_cl [(h0, .inr (0, [.ref q1, .null, .null, .null, .null, .int 0, .int 0, .int 0])), (q1, .inl (cI, 6, .inl k_z))] H := hP
  have hD : va_D A [(h0, .inr (0, [.ref q1, .null, .null, .null, .null, .int 0, .int 0, .int 0])), (q1, .inl (cI, 6, .inl k_z))] := hD
  refine W.widen (k := 1) (n := 6) (Nat.le_of_ble_eq_true rfl) (Nat.le_of_ble_eq_true rfl) ?_
  refine lv_aload_n hx hb kd_X0_12 rfl (lv_at hl 0 rfl) ?_
  refine lv_bipush (v := nI 6) hx hb kd_X0_13 (by decide +kernel) ?_
  refine k_arr hx hb hts uw_0 m_y0 ty_0 nn_0 hown hK hP hD hS hA rfl rfl 1 (by decide) kw_5 rfl hin rfl rfl (Nat.le_of_ble_eq_true rfl) 6 (by decide) (Nat.le_of_ble_eq_true rfl) (Nat.le_of_ble_eq_true rfl) kd_X0_15 kd_X0_17 (fun q2 H locs hP hD hS => ?_)
  have hP : va_P (dC, dI) m_cl [(h0, .inr (0, [.ref q1, .ref q2, .null, .null, .null, .int 0, .int 0, .int 0])), (q1, .inl (cI, 6, .inl k_z)), (q2, .inl (cI, 6, .inl k_z))] H := hP
  have hD : va_D A [(h0, .inr (0, [.ref q1, .ref q2, .null, .null, .null, .int 0, .int 0, .int 0])), (q1, .inl (cI, 6, .inl k_z)), (q2, .inl (cI, 6, .inl k_z))] := hD
  refine W.widen (k := 2) (n := 12) (Nat.le_of_ble_eq_true rfl) (Nat.le_of_ble_eq_true rfl) ?_
  refine lv_aload_n hx hb kd_X0_20 rfl (lv_at hl 0 rfl) ?_
  refine lv_bipush (v := nI 6) hx hb kd_X0_21 (by decide +kernel) ?_
  refine k_arr hx hb hts uw_0 m_y0 ty_0 nn_0 hown hK hP hD hS hA rfl rfl 2 (by decide) kw_6 rfl hin rfl rfl (Nat.le_of_ble_eq_true rfl) 6 (by decide) (Nat.le_of_ble_eq_true rfl) (Nat.le_of_ble_eq_true rfl) kd_X0_23 kd_X0_25 (fun q3 H locs hP hD hS => ?_)
  have hP : va_P (dC, dI) m_cl [(h0, .inr (0, [.ref q1, .ref q2, .ref q3, .null, .null, .int 0, .int 0, .int 0])), (q1, .inl (cI, 6, .inl k_z)), (q2, .inl (cI, 6, .inl k_z)), (q3, .inl (cI, 6, .inl k_z))] H := hP
  have hD : va_D A [(h0, .inr (0, [.ref q1, .ref q2, .ref q3, .null, .null, .int 0, .int 0, .int 0])), (q1, .inl (cI, 6, .inl k_z)), (q2, .inl (cI, 6, .inl k_z)), (q3, .inl (cI, 6, .inl k_z))] := hD
  refine W.widen (k := 3) (n := 18) (Nat.le_of_ble_eq_true rfl) (Nat.le_of_ble_eq_true rfl) ?_
  refine lv_aload_n hx hb kd_X0_28 rfl (lv_at hl 0 rfl) ?_
  refine lv_bipush (v := nI 24) hx hb kd_X0_29 (by decide +kernel) ?_
  refine k_arr hx hb hts uw_0 m_y0 ty_0 nn_0 hown hK hP hD hS hA rfl rfl 3 (by decide) kw_7 rfl hin rfl rfl (Nat.le_of_ble_eq_true rfl) 24 (by decide) (Nat.le_of_ble_eq_true rfl) (Nat.le_of_ble_eq_true rfl) kd_X0_31 kd_X0_33 (fun q4 H locs hP hD hS => ?_)
  have hP : va_P (dC, dI) m_cl [(h0, .inr (0, [.ref q1, .ref q2, .ref q3, .ref q4, .null, .int 0, .int 0, .int 0])), (q1, .inl (cI, 6, .inl k_z)), (q2, .inl (cI, 6, .inl k_z)), (q3, .inl (cI, 6, .inl k_z)), (q4, .inl (cI, 24, .inl k_z))] H := hP
  have hD : va_D A [(h0, .inr (0, [.ref q1, .ref q2, .ref q3, .ref q4, .null, .int 0, .int 0, .int 0])), (q1, .inl (cI, 6, .inl k_z)), (q2, .inl (cI, 6, .inl k_z)), (q3, .inl (cI, 6, .inl k_z)), (q4, .inl (cI, 24, .inl k_z))] := hD
  refine W.widen (k := 4) (n := 42) (Nat.le_of_ble_eq_true rfl) (Nat.le_of_ble_eq_true rfl) ?_
  refine lv_aload_n hx hb kd_X0_36 rfl (lv_at hl 0 rfl) ?_
  refine lv_iconst (v := nI 4) hx hb kd_X0_37 (by decide +kernel) ?_
  refine k_arr hx hb hts uw_0 m_y0 ty_0 nn_0 hown hK hP hD hS hA rfl rfl 4 (by decide) kw_8 rfl hin rfl rfl (Nat.le_of_ble_eq_true rfl) 4 (by decide) (Nat.le_of_ble_eq_true rfl) (Nat.le_of_ble_eq_true rfl) kd_X0_38 kd_X0_40 (fun q5 H locs hP hD hS => ?_)
  have hP : va_P (dC, dI) m_cl [(h0, .inr (0, [.ref q1, .ref q2, .ref q3, .ref q4, .ref q5, .int 0, .int 0, .int 0])), (q1, .inl (cI, 6, .inl k_z)), (q2, .inl (cI, 6, .inl k_z)), (q3, .inl (cI, 6, .inl k_z)), (q4, .inl (cI, 24, .inl k_z)), (q5, .inl (cI, 4, .inl k_z))] H := hP
  have hD : va_D A [(h0, .inr (0, [.ref q1, .ref q2, .ref q3, .ref q4, .ref q5, .int 0, .int 0, .int 0])), (q1, .inl (cI, 6, .inl k_z)), (q2, .inl (cI, 6, .inl k_z)), (q3, .inl (cI, 6, .inl k_z)), (q4, .inl (cI, 24, .inl k_z)), (q5, .inl (cI, 4, .inl k_z))] := hD
  refine W.widen (k := 5) (n := 46) (Nat.le_of_ble_eq_true rfl) (Nat.le_of_ble_eq_true rfl) ?_
  exact W.vret hx hb hr (fun t ht hW => ⟨⟨(), rfl, trivial, q1, q2, q3, q4, q5, by rw [ht]; exact hP, hD⟩, hS.F ht⟩) hS.2.2 kd_X0_43
abbrev k_w1 (cI : ClassId) (h0 q1 : Nat) : va_W := [(h0, .inr (1, [.ref q1, .int 0, .int 0, .int 0])), (q1, .inl (cI, 60, .inl k_z))]
def k_post1 (dC : Nat → ClassId) (dI : Nat → Nat → Nat) (cI : ClassId) (h0 sz : Nat) : Array Value → State → Outcome → State → Prop := va_Qv (fun _ : Unit => True) (fun _ t => ∃ q1 : Nat, va_P (dC, dI) m_cl (k_w1 cI h0 q1) t.heap ∧ va_D (va_A [(h0, .inr (1, [.null, .int 0, .int 0, .int 0]))] sz) (k_w1 cI h0 q1)) (va_A [(h0, .inr (1, [.null, .int 0, .int 0, .int 0]))] sz)
set_option maxHeartbeats 4000000 in
set_option maxRecDepth 100000 in
theorem k_X1 (l : Launch) (dC : Nat → ClassId) (dI : Nat → Nat → Nat) (cI cR : ClassId) (h0 sz : Nat) : Met l ky1 (k_ws ky1 prog_3_method_1_code 1) { frames := 1, cells := 1, slots := 60, locals := 12 } (k_pre dC dI cI cR h0 sz 1 [.null, .int 0, .int 0, .int 0]) (k_post1 dC dI cI h0 sz) 1 60 (va_A [(h0, .inr (1, [.null, .int 0, .int 0, .int 0]))] sz) := by
  unfold k_post1
  refine Met.ofW (cc := prog_3_method_1_code) (maxL := 1) (ret := none) (by decide) rfl ?_
  intro p e s m args below meth c s₁ B hml hv
  obtain ⟨rfl, hsz, hP, hK, hD0⟩ := hv
  have hx := B.exec
  have hb := B.bytes
  have hr := B.returns
  have hts0 := atoms_spec (ws := k_ws ky1 prog_3_method_1_code 1) B.pre
  have hts : ∀ w ∈ m_TB, w.before ([Value.ref h0] : List Value).toArray s = true := fun w h => hts0 w (List.mem_cons_of_mem _ h)
  have hown : s.vm.findClass "RainRead$Sheet" = some m.cls := findClass_of_methodNamed B.named
  have hin : meth.name = "<init>" := (name_of_methodNamed B.named B.method).1
  subst hsz
  have hD := hD0.self (sz := s.heap.size)
  generalize hAe : va_A [(h0, .inr (1, [.null, .int 0, .int 0, .int 0]))] s.heap.size = A at hD ⊢
  have hA : ∀ q : Nat, s.heap.size ≤ q → A q := fun q h => by rw [← hAe]; exact Or.inr h
  have hS : va_S A s.heap s.heap [] := va_S.rf
  have hP : va_P (dC, dI) m_cl [(h0, .inr (1, [.null, .int 0, .int 0, .int 0]))] s.heap := hP
  have hl := lv_entry ([.ref h0]) (n := 1) (Nat.le_of_ble_eq_true rfl)
  rw [lg_entry_eq]
  generalize (lg_sl ([.ref h0]) ++ List.replicate (1 - (lg_sl ([.ref h0])).length) Slot.unset).toArray = ls at hl ⊢
  have hl : lv_has ls 1 [(0, .ref h0)] := hl
  refine lv_aload_n hx hb kd_X1_0 rfl (lv_at hl 0 rfl) ?_
  refine W.objInit hx hb hown (hts _ kw_9) (hts _ kw_0) (hts _ kw_1) rfl (by rw [hml]; exact hl.1) rfl kd_X1_1 (Nat.le_of_ble_eq_true rfl) (Nat.le_of_ble_eq_true rfl) ?_
  refine W.eq (g2 := F0 m 4 ls []) rfl ?_
  refine lv_aload_n hx hb kd_X1_4 rfl (lv_at hl 0 rfl) ?_
  refine lv_bipush (v := nI 60) hx hb kd_X1_5 (by decide +kernel) ?_
  refine k_arr hx hb hts uw_1 m_y1 ty_1 nn_1 hown hK hP hD hS hA rfl rfl 0 (by decide) kw_10 rfl hin rfl rfl (Nat.le_of_ble_eq_true rfl) 60 (by decide) (Nat.le_of_ble_eq_true rfl) (Nat.le_of_ble_eq_true rfl) kd_X1_7 kd_X1_9 (fun q1 H locs hP hD hS => ?_)
  have hP : va_P (dC, dI) m_cl [(h0, .inr (1, [.ref q1, .int 0, .int 0, .int 0])), (q1, .inl (cI, 60, .inl k_z))] H := hP
  have hD : va_D A [(h0, .inr (1, [.ref q1, .int 0, .int 0, .int 0])), (q1, .inl (cI, 60, .inl k_z))] := hD
  refine W.widen (k := 1) (n := 60) (Nat.le_of_ble_eq_true rfl) (Nat.le_of_ble_eq_true rfl) ?_
  exact W.vret hx hb hr (fun t ht hW => ⟨⟨(), rfl, trivial, q1, by rw [ht]; exact hP, hD⟩, hS.F ht⟩) hS.2.2 kd_X1_12
abbrev k_w2 (cI : ClassId) (h0 q1 q2 q3 q4 q5 q6 : Nat) : va_W := [(h0, .inr (2, [.int 0, .int 0, .ref q1, .ref q2, .ref q3, .ref q4, .ref q5, .ref q6])), (q1, .inl (cI, 6, .inl k_z)), (q2, .inl (cI, 6, .inl k_z)), (q3, .inl (cI, 3, .inl k_z)), (q4, .inl (cI, 3, .inl k_z)), (q5, .inl (cI, 3, .inl k_z)), (q6, .inl (cI, 6, .inl k_z))]
def k_post2 (dC : Nat → ClassId) (dI : Nat → Nat → Nat) (cI : ClassId) (h0 sz : Nat) : Array Value → State → Outcome → State → Prop := va_Qv (fun _ : Unit => True) (fun _ t => ∃ q1 q2 q3 q4 q5 q6 : Nat, va_P (dC, dI) m_cl (k_w2 cI h0 q1 q2 q3 q4 q5 q6) t.heap ∧ va_D (va_A [(h0, .inr (2, [.int 0, .int 0, .null, .null, .null, .null, .null, .null]))] sz) (k_w2 cI h0 q1 q2 q3 q4 q5 q6)) (va_A [(h0, .inr (2, [.int 0, .int 0, .null, .null, .null, .null, .null, .null]))] sz)
set_option maxHeartbeats 4000000 in
set_option maxRecDepth 100000 in
theorem k_X2 (l : Launch) (dC : Nat → ClassId) (dI : Nat → Nat → Nat) (cI cR : ClassId) (h0 sz : Nat) : Met l ky2 (k_ws ky2 prog_4_method_1_code 1) { frames := 1, cells := 6, slots := 27, locals := 12 } (k_pre dC dI cI cR h0 sz 2 [.int 0, .int 0, .null, .null, .null, .null, .null, .null]) (k_post2 dC dI cI h0 sz) 6 27 (va_A [(h0, .inr (2, [.int 0, .int 0, .null, .null, .null, .null, .null, .null]))] sz) := by
  unfold k_post2
  refine Met.ofW (cc := prog_4_method_1_code) (maxL := 1) (ret := none) (by decide) rfl ?_
  intro p e s m args below meth c s₁ B hml hv
  obtain ⟨rfl, hsz, hP, hK, hD0⟩ := hv
  have hx := B.exec
  have hb := B.bytes
  have hr := B.returns
  have hts0 := atoms_spec (ws := k_ws ky2 prog_4_method_1_code 1) B.pre
  have hts : ∀ w ∈ m_TB, w.before ([Value.ref h0] : List Value).toArray s = true := fun w h => hts0 w (List.mem_cons_of_mem _ h)
  have hown : s.vm.findClass "RainRead$Shower" = some m.cls := findClass_of_methodNamed B.named
  have hin : meth.name = "<init>" := (name_of_methodNamed B.named B.method).1
  subst hsz
  have hD := hD0.self (sz := s.heap.size)
  generalize hAe : va_A [(h0, .inr (2, [.int 0, .int 0, .null, .null, .null, .null, .null, .null]))] s.heap.size = A at hD ⊢
  have hA : ∀ q : Nat, s.heap.size ≤ q → A q := fun q h => by rw [← hAe]; exact Or.inr h
  have hS : va_S A s.heap s.heap [] := va_S.rf
  have hP : va_P (dC, dI) m_cl [(h0, .inr (2, [.int 0, .int 0, .null, .null, .null, .null, .null, .null]))] s.heap := hP
  have hl := lv_entry ([.ref h0]) (n := 1) (Nat.le_of_ble_eq_true rfl)
  rw [lg_entry_eq]
  generalize (lg_sl ([.ref h0]) ++ List.replicate (1 - (lg_sl ([.ref h0])).length) Slot.unset).toArray = ls at hl ⊢
  have hl : lv_has ls 1 [(0, .ref h0)] := hl
  refine lv_aload_n hx hb kd_X2_0 rfl (lv_at hl 0 rfl) ?_
  refine W.objInit hx hb hown (hts _ kw_11) (hts _ kw_0) (hts _ kw_1) rfl (by rw [hml]; exact hl.1) rfl kd_X2_1 (Nat.le_of_ble_eq_true rfl) (Nat.le_of_ble_eq_true rfl) ?_
  refine W.eq (g2 := F0 m 4 ls []) rfl ?_
  refine lv_aload_n hx hb kd_X2_4 rfl (lv_at hl 0 rfl) ?_
  refine lv_bipush (v := nI 6) hx hb kd_X2_5 (by decide +kernel) ?_
  refine k_arr hx hb hts uw_2 m_y2 ty_2 nn_2 hown hK hP hD hS hA rfl rfl 2 (by decide) kw_12 rfl hin rfl rfl (Nat.le_of_ble_eq_true rfl) 6 (by decide) (Nat.le_of_ble_eq_true rfl) (Nat.le_of_ble_eq_true rfl) kd_X2_7 kd_X2_9 (fun q1 H locs hP hD hS => ?_)
  have hP : va_P (dC, dI) m_cl [(h0, .inr (2, [.int 0, .int 0, .ref q1, .null, .null, .null, .null, .null])), (q1, .inl (cI, 6, .inl k_z))] H := hP
  have hD : va_D A [(h0, .inr (2, [.int 0, .int 0, .ref q1, .null, .null, .null, .null, .null])), (q1, .inl (cI, 6, .inl k_z))] := hD
  refine W.widen (k := 1) (n := 6) (Nat.le_of_ble_eq_true rfl) (Nat.le_of_ble_eq_true rfl) ?_
  refine lv_aload_n hx hb kd_X2_12 rfl (lv_at hl 0 rfl) ?_
  refine lv_bipush (v := nI 6) hx hb kd_X2_13 (by decide +kernel) ?_
  refine k_arr hx hb hts uw_2 m_y2 ty_2 nn_2 hown hK hP hD hS hA rfl rfl 3 (by decide) kw_13 rfl hin rfl rfl (Nat.le_of_ble_eq_true rfl) 6 (by decide) (Nat.le_of_ble_eq_true rfl) (Nat.le_of_ble_eq_true rfl) kd_X2_15 kd_X2_17 (fun q2 H locs hP hD hS => ?_)
  have hP : va_P (dC, dI) m_cl [(h0, .inr (2, [.int 0, .int 0, .ref q1, .ref q2, .null, .null, .null, .null])), (q1, .inl (cI, 6, .inl k_z)), (q2, .inl (cI, 6, .inl k_z))] H := hP
  have hD : va_D A [(h0, .inr (2, [.int 0, .int 0, .ref q1, .ref q2, .null, .null, .null, .null])), (q1, .inl (cI, 6, .inl k_z)), (q2, .inl (cI, 6, .inl k_z))] := hD
  refine W.widen (k := 2) (n := 12) (Nat.le_of_ble_eq_true rfl) (Nat.le_of_ble_eq_true rfl) ?_
  refine lv_aload_n hx hb kd_X2_20 rfl (lv_at hl 0 rfl) ?_
  refine lv_iconst (v := nI 3) hx hb kd_X2_21 (by decide +kernel) ?_
  refine k_arr hx hb hts uw_2 m_y2 ty_2 nn_2 hown hK hP hD hS hA rfl rfl 4 (by decide) kw_14 rfl hin rfl rfl (Nat.le_of_ble_eq_true rfl) 3 (by decide) (Nat.le_of_ble_eq_true rfl) (Nat.le_of_ble_eq_true rfl) kd_X2_22 kd_X2_24 (fun q3 H locs hP hD hS => ?_)
  have hP : va_P (dC, dI) m_cl [(h0, .inr (2, [.int 0, .int 0, .ref q1, .ref q2, .ref q3, .null, .null, .null])), (q1, .inl (cI, 6, .inl k_z)), (q2, .inl (cI, 6, .inl k_z)), (q3, .inl (cI, 3, .inl k_z))] H := hP
  have hD : va_D A [(h0, .inr (2, [.int 0, .int 0, .ref q1, .ref q2, .ref q3, .null, .null, .null])), (q1, .inl (cI, 6, .inl k_z)), (q2, .inl (cI, 6, .inl k_z)), (q3, .inl (cI, 3, .inl k_z))] := hD
  refine W.widen (k := 3) (n := 15) (Nat.le_of_ble_eq_true rfl) (Nat.le_of_ble_eq_true rfl) ?_
  refine lv_aload_n hx hb kd_X2_27 rfl (lv_at hl 0 rfl) ?_
  refine lv_iconst (v := nI 3) hx hb kd_X2_28 (by decide +kernel) ?_
  refine k_arr hx hb hts uw_2 m_y2 ty_2 nn_2 hown hK hP hD hS hA rfl rfl 5 (by decide) kw_15 rfl hin rfl rfl (Nat.le_of_ble_eq_true rfl) 3 (by decide) (Nat.le_of_ble_eq_true rfl) (Nat.le_of_ble_eq_true rfl) kd_X2_29 kd_X2_31 (fun q4 H locs hP hD hS => ?_)
  have hP : va_P (dC, dI) m_cl [(h0, .inr (2, [.int 0, .int 0, .ref q1, .ref q2, .ref q3, .ref q4, .null, .null])), (q1, .inl (cI, 6, .inl k_z)), (q2, .inl (cI, 6, .inl k_z)), (q3, .inl (cI, 3, .inl k_z)), (q4, .inl (cI, 3, .inl k_z))] H := hP
  have hD : va_D A [(h0, .inr (2, [.int 0, .int 0, .ref q1, .ref q2, .ref q3, .ref q4, .null, .null])), (q1, .inl (cI, 6, .inl k_z)), (q2, .inl (cI, 6, .inl k_z)), (q3, .inl (cI, 3, .inl k_z)), (q4, .inl (cI, 3, .inl k_z))] := hD
  refine W.widen (k := 4) (n := 18) (Nat.le_of_ble_eq_true rfl) (Nat.le_of_ble_eq_true rfl) ?_
  refine lv_aload_n hx hb kd_X2_34 rfl (lv_at hl 0 rfl) ?_
  refine lv_iconst (v := nI 3) hx hb kd_X2_35 (by decide +kernel) ?_
  refine k_arr hx hb hts uw_2 m_y2 ty_2 nn_2 hown hK hP hD hS hA rfl rfl 6 (by decide) kw_16 rfl hin rfl rfl (Nat.le_of_ble_eq_true rfl) 3 (by decide) (Nat.le_of_ble_eq_true rfl) (Nat.le_of_ble_eq_true rfl) kd_X2_36 kd_X2_38 (fun q5 H locs hP hD hS => ?_)
  have hP : va_P (dC, dI) m_cl [(h0, .inr (2, [.int 0, .int 0, .ref q1, .ref q2, .ref q3, .ref q4, .ref q5, .null])), (q1, .inl (cI, 6, .inl k_z)), (q2, .inl (cI, 6, .inl k_z)), (q3, .inl (cI, 3, .inl k_z)), (q4, .inl (cI, 3, .inl k_z)), (q5, .inl (cI, 3, .inl k_z))] H := hP
  have hD : va_D A [(h0, .inr (2, [.int 0, .int 0, .ref q1, .ref q2, .ref q3, .ref q4, .ref q5, .null])), (q1, .inl (cI, 6, .inl k_z)), (q2, .inl (cI, 6, .inl k_z)), (q3, .inl (cI, 3, .inl k_z)), (q4, .inl (cI, 3, .inl k_z)), (q5, .inl (cI, 3, .inl k_z))] := hD
  refine W.widen (k := 5) (n := 21) (Nat.le_of_ble_eq_true rfl) (Nat.le_of_ble_eq_true rfl) ?_
  refine lv_aload_n hx hb kd_X2_41 rfl (lv_at hl 0 rfl) ?_
  refine lv_bipush (v := nI 6) hx hb kd_X2_42 (by decide +kernel) ?_
  refine k_arr hx hb hts uw_2 m_y2 ty_2 nn_2 hown hK hP hD hS hA rfl rfl 7 (by decide) kw_17 rfl hin rfl rfl (Nat.le_of_ble_eq_true rfl) 6 (by decide) (Nat.le_of_ble_eq_true rfl) (Nat.le_of_ble_eq_true rfl) kd_X2_44 kd_X2_46 (fun q6 H locs hP hD hS => ?_)
  have hP : va_P (dC, dI) m_cl [(h0, .inr (2, [.int 0, .int 0, .ref q1, .ref q2, .ref q3, .ref q4, .ref q5, .ref q6])), (q1, .inl (cI, 6, .inl k_z)), (q2, .inl (cI, 6, .inl k_z)), (q3, .inl (cI, 3, .inl k_z)), (q4, .inl (cI, 3, .inl k_z)), (q5, .inl (cI, 3, .inl k_z)), (q6, .inl (cI, 6, .inl k_z))] H := hP
  have hD : va_D A [(h0, .inr (2, [.int 0, .int 0, .ref q1, .ref q2, .ref q3, .ref q4, .ref q5, .ref q6])), (q1, .inl (cI, 6, .inl k_z)), (q2, .inl (cI, 6, .inl k_z)), (q3, .inl (cI, 3, .inl k_z)), (q4, .inl (cI, 3, .inl k_z)), (q5, .inl (cI, 3, .inl k_z)), (q6, .inl (cI, 6, .inl k_z))] := hD
  refine W.widen (k := 6) (n := 27) (Nat.le_of_ble_eq_true rfl) (Nat.le_of_ble_eq_true rfl) ?_
  exact W.vret hx hb hr (fun t ht hW => ⟨⟨(), rfl, trivial, q1, q2, q3, q4, q5, q6, by rw [ht]; exact hP, hD⟩, hS.F ht⟩) hS.2.2 kd_X2_49
abbrev k_w3 (cI : ClassId) (h0 q1 : Nat) : va_W := [(h0, .inr (3, [.ref q1, .int 0, .int 0])), (q1, .inl (cI, 60, .inl k_z))]
def k_post3 (dC : Nat → ClassId) (dI : Nat → Nat → Nat) (cI : ClassId) (h0 sz : Nat) : Array Value → State → Outcome → State → Prop := va_Qv (fun _ : Unit => True) (fun _ t => ∃ q1 : Nat, va_P (dC, dI) m_cl (k_w3 cI h0 q1) t.heap ∧ va_D (va_A [(h0, .inr (3, [.null, .int 0, .int 0]))] sz) (k_w3 cI h0 q1)) (va_A [(h0, .inr (3, [.null, .int 0, .int 0]))] sz)
set_option maxHeartbeats 4000000 in
set_option maxRecDepth 100000 in
theorem k_X3 (l : Launch) (dC : Nat → ClassId) (dI : Nat → Nat → Nat) (cI cR : ClassId) (h0 sz : Nat) : Met l ky3 (k_ws ky3 prog_5_method_1_code 1) { frames := 1, cells := 1, slots := 60, locals := 12 } (k_pre dC dI cI cR h0 sz 3 [.null, .int 0, .int 0]) (k_post3 dC dI cI h0 sz) 1 60 (va_A [(h0, .inr (3, [.null, .int 0, .int 0]))] sz) := by
  unfold k_post3
  refine Met.ofW (cc := prog_5_method_1_code) (maxL := 1) (ret := none) (by decide) rfl ?_
  intro p e s m args below meth c s₁ B hml hv
  obtain ⟨rfl, hsz, hP, hK, hD0⟩ := hv
  have hx := B.exec
  have hb := B.bytes
  have hr := B.returns
  have hts0 := atoms_spec (ws := k_ws ky3 prog_5_method_1_code 1) B.pre
  have hts : ∀ w ∈ m_TB, w.before ([Value.ref h0] : List Value).toArray s = true := fun w h => hts0 w (List.mem_cons_of_mem _ h)
  have hown : s.vm.findClass "RainRead$TextReader" = some m.cls := findClass_of_methodNamed B.named
  have hin : meth.name = "<init>" := (name_of_methodNamed B.named B.method).1
  subst hsz
  have hD := hD0.self (sz := s.heap.size)
  generalize hAe : va_A [(h0, .inr (3, [.null, .int 0, .int 0]))] s.heap.size = A at hD ⊢
  have hA : ∀ q : Nat, s.heap.size ≤ q → A q := fun q h => by rw [← hAe]; exact Or.inr h
  have hS : va_S A s.heap s.heap [] := va_S.rf
  have hP : va_P (dC, dI) m_cl [(h0, .inr (3, [.null, .int 0, .int 0]))] s.heap := hP
  have hl := lv_entry ([.ref h0]) (n := 1) (Nat.le_of_ble_eq_true rfl)
  rw [lg_entry_eq]
  generalize (lg_sl ([.ref h0]) ++ List.replicate (1 - (lg_sl ([.ref h0])).length) Slot.unset).toArray = ls at hl ⊢
  have hl : lv_has ls 1 [(0, .ref h0)] := hl
  refine lv_aload_n hx hb kd_X3_0 rfl (lv_at hl 0 rfl) ?_
  refine W.objInit hx hb hown (hts _ kw_18) (hts _ kw_0) (hts _ kw_1) rfl (by rw [hml]; exact hl.1) rfl kd_X3_1 (Nat.le_of_ble_eq_true rfl) (Nat.le_of_ble_eq_true rfl) ?_
  refine W.eq (g2 := F0 m 4 ls []) rfl ?_
  refine lv_aload_n hx hb kd_X3_4 rfl (lv_at hl 0 rfl) ?_
  refine lv_bipush (v := nI 60) hx hb kd_X3_5 (by decide +kernel) ?_
  refine k_arr hx hb hts uw_3 m_y3 ty_3 nn_3 hown hK hP hD hS hA rfl rfl 0 (by decide) kw_19 rfl hin rfl rfl (Nat.le_of_ble_eq_true rfl) 60 (by decide) (Nat.le_of_ble_eq_true rfl) (Nat.le_of_ble_eq_true rfl) kd_X3_7 kd_X3_9 (fun q1 H locs hP hD hS => ?_)
  have hP : va_P (dC, dI) m_cl [(h0, .inr (3, [.ref q1, .int 0, .int 0])), (q1, .inl (cI, 60, .inl k_z))] H := hP
  have hD : va_D A [(h0, .inr (3, [.ref q1, .int 0, .int 0])), (q1, .inl (cI, 60, .inl k_z))] := hD
  refine W.widen (k := 1) (n := 60) (Nat.le_of_ble_eq_true rfl) (Nat.le_of_ble_eq_true rfl) ?_
  exact W.vret hx hb hr (fun t ht hW => ⟨⟨(), rfl, trivial, q1, by rw [ht]; exact hP, hD⟩, hS.F ht⟩) hS.2.2 kd_X3_12
