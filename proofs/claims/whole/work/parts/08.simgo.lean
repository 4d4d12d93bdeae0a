/-! ===== straight steps ===== -/
theorem m_fk_spec {o j ci k : Nat} (h : m_fk o j ci k = true) : m_fw (o, j, ci, k) ∈ m_TB := fw_ok _ (of_decide_eq_true h)
/-- the kinds of objects: their names, fields, types -/
theorem m_cl_spec {ci : Nat} {C : String} {T : u_T} {N : Nat} (h : m_cl[ci]? = some (C, T, N)) : (∀ w ∈ u_ws C T N, w ∈ m_TB) ∧ (∃ ty : Nat → FieldType, ∀ k, k < N → parseFieldDescriptor (T k).2.2.1 = some (ty k)) ∧ (∀ a, a < N → ∀ b, b < N → a ≠ b → (T a).2.1 ≠ (T b).2.1) := by
  match ci, h with
  | 0, h => cases h; exact ⟨uw_0, ⟨_, ty_0⟩, nn_0⟩
  | 1, h => cases h; exact ⟨uw_1, ⟨_, ty_1⟩, nn_1⟩
  | 2, h => cases h; exact ⟨uw_2, ⟨_, ty_2⟩, nn_2⟩
  | 3, h => cases h; exact ⟨uw_3, ⟨_, ty_3⟩, nn_3⟩
  | 4, h => cases h; exact ⟨uw_4, ⟨_, ty_4⟩, nn_4⟩
  | 5, h => cases h; exact ⟨uw_5, ⟨_, ty_5⟩, nn_5⟩
  | n + 6, h => simp [m_cl] at h
theorem m_fn_spec {ci k : Nat} (h : m_fn ci k = true) : ∃ C T N, m_cl[ci]? = some (C, T, N) ∧ k < N := by
  unfold m_fn at h
  split at h
  · rename_i C T N hc
    exact ⟨C, T, N, hc, of_decide_eq_true h⟩
  · cases h
theorem m_fi_spec {ci k : Nat} {ty : FieldType} (h : m_fi ci k ty = true) : ∃ C T N, m_cl[ci]? = some (C, T, N) ∧ k < N ∧ (T k).2.2.2 = false ∧ parseFieldDescriptor (T k).2.2.1 = some ty := by
  unfold m_fi at h
  split at h
  · rename_i C T N hc
    obtain ⟨h1, h2⟩ := m_and h
    obtain ⟨h1, h3⟩ := m_and h1
    exact ⟨C, T, N, hc, of_decide_eq_true h1, of_decide_eq_true h3, of_decide_eq_true h2⟩
  · cases h
theorem m_fw_eq {o j ci k : Nat} {C : String} {T : u_T} {N : Nat} (h : m_cl[ci]? = some (C, T, N)) : m_fw (o, j, ci, k) = .fieldLink (m_cn o) j (T k).1 (T k).2.1 (T k).2.2.1 := by
  unfold m_fw
  rw [h]
theorem m_shp60 : m_shp[60]? = none := rfl
section SGO
variable {p : Program} {l : Launch} {e : Env} {R : Room} {s : State} {m : MethodId} {args : Array Value} {below : List Frame} {meth : Method} {c : Code} {cells slots : Nat} {Q : State → Prop} {dC : Nat → ClassId} {dI : Nat → Nat → Nat} {cI cR : ClassId} {ad : Nat → Nat} {A : Nat → Prop} {xs : Nat → Int32} {nL o : Nat} {b : ByteArray} {lc : m_Lc} {st : List Value} {D : m_D} {τ : m_St}
theorem m_s_store {pc nx j k : Nat} {v : Value} {f : Fin 4 → Instr} {g : Nat → Instr} (hc : m_ld b pc j k nx f g = true) {lc' : m_Lc} (hlf : m_left lc lc' j v) {H : Heap} {locs : List Loc} {ls : Array Slot} (hl : m_LR ad ls nL lc)
    (h1 : ∀ (hdg : decode b pc = .ok (f (m_fin4 j), 1)) (hi : ((m_fin4 j : Fin 4) : Nat) = j) (h : lv_has ls nL (m_pl ad 0 lc)) (hn : j < nL), (∀ ls' : Array Slot, lv_has ls' nL ((j, m_va ad v) :: (m_pl ad 0 lc).filter (fun q => !(q.1 == j) && !(q.1 + 1 == j && q.2.category == 2))) → W p l e R s m args below meth c H locs cells slots Q (F0 m (pc + 1) ls' (st.map (m_va ad)))) → W p l e R s m args below meth c H locs cells slots Q (F0 m pc ls (m_va ad v :: st.map (m_va ad))))
    (h2 : ∀ (hdg : decode b pc = .ok (g j, 2)) (h : lv_has ls nL (m_pl ad 0 lc)) (hn : j < nL), (∀ ls' : Array Slot, lv_has ls' nL ((j, m_va ad v) :: (m_pl ad 0 lc).filter (fun q => !(q.1 == j) && !(q.1 + 1 == j && q.2.category == 2))) → W p l e R s m args below meth c H locs cells slots Q (F0 m (pc + 2) ls' (st.map (m_va ad)))) → W p l e R s m args below meth c H locs cells slots Q (F0 m pc ls (m_va ad v :: st.map (m_va ad))))
    (k : ∀ ls' : Array Slot, m_LR ad ls' nL lc' → W p l e R s m args below meth c H locs cells slots Q (F0 m nx ls' (st.map (m_va ad)))) : W p l e R s m args below meth c H locs cells slots Q (F0 m pc ls (m_va ad v :: st.map (m_va ad))) := by
  have hn : j < nL := by rw [← hl.2.2.1]; exact hlf.2.1
  rcases m_ld_spec hc with ⟨a, rfl, hj⟩ | ⟨a, rfl⟩
  · exact h1 a (m_fin hj) hl.has hn (fun ls' h' => k ls' (hl.st hlf h'))
  · exact h2 a hl.has hn (fun ls' h' => k ls' (hl.st hlf h'))
set_option maxHeartbeats 4000000 in
theorem m_sim_ex (C : m_Cx p s m args c dC dI cI cR b o nL) (E : m_E) (hc : m_ck b o E = true) (h : m_ex E lc st D = some τ) (k : m_X p l e R s m args below meth c cells slots Q dC dI cI cR ad A xs nL τ) : m_X p l e R s m args below meth c cells slots Q dC dI cI cR ad A xs nL (E.1, lc, st, D) := by
  obtain ⟨hx, hb, hml, hown, hts, hK⟩ := C
  obtain ⟨pc, nx, op, j, kk, n, cv, w⟩ := E
  intro H locs ls hR hl
  show W p l e R s m args below meth c H locs cells slots Q (F0 m pc ls (st.map (m_va ad)))
  have hR' := hR
  obtain ⟨hP, hD, hS, hxs⟩ := hR
  match op, h, hc with
  | 0, h, hc =>
    have h : some (nx, lc, Value.int cv :: st, D) = some τ := h
    cases h
    match kk, hc with
    | 0, hc =>
      obtain ⟨h1, h2⟩ := m_and hc
      obtain ⟨hd, rfl⟩ := m_is_spec h1
      exact lv_iconst hx hb hd (of_decide_eq_true h2) (k H locs ls hR' hl)
    | 1, hc =>
      obtain ⟨h1, h2⟩ := m_and hc
      obtain ⟨hd, rfl⟩ := m_is_spec h1
      exact lv_bipush hx hb hd (of_decide_eq_true h2) (k H locs ls hR' hl)
    | 2, hc =>
      obtain ⟨h1, h2⟩ := m_and hc
      obtain ⟨hd, rfl⟩ := m_is_spec h1
      exact lv_sipush hx hb hd (of_decide_eq_true h2) (k H locs ls hR' hl)
    | z + 3, hc =>
      obtain ⟨h1, h2⟩ := m_and hc
      obtain ⟨hd, rfl⟩ := m_is_spec h1
      exact lv_ldcw hx hb hown (hts _ (ow_ok _ (of_decide_eq_true h2))) hd (k H locs ls hR' hl)
  | 1, h, hc =>
    have h : some (nx, lc, Value.long w :: st, D) = some τ := h
    cases h
    match kk, hc with
    | 0, hc =>
      obtain ⟨h1, h2⟩ := m_and hc
      obtain ⟨hd, rfl⟩ := m_is_spec h1
      exact lv_lconst hx hb hd (by rw [of_decide_eq_true h2]; rfl) (k H locs ls hR' hl)
    | 1, hc =>
      obtain ⟨h1, h2⟩ := m_and hc
      obtain ⟨hd, rfl⟩ := m_is_spec h1
      exact lv_lconst hx hb hd (by rw [of_decide_eq_true h2]; rfl) (k H locs ls hR' hl)
    | z + 2, hc =>
      obtain ⟨h1, h2⟩ := m_and hc
      obtain ⟨hd, rfl⟩ := m_is_spec h1
      exact lv_ldc2 hx hb hown (hts _ (lw_ok _ (of_decide_eq_true h2))) hd (k H locs ls hR' hl)
  | 2, h, hc =>
    obtain ⟨v, hv, h⟩ := m_get_spec _ _ _ _ (show m_get lc j (fun v => match v with
      | .int x => some (nx, lc, .int x :: st, D)
      | _ => none) = some τ from h)
    cases v <;> try cases h
    have hv := hl.2.2.2 j _ hv
    rcases m_ld_spec (show m_ld b pc j kk nx .iload_n .iload = true from hc) with ⟨hd, rfl, hj⟩ | ⟨hd, rfl⟩
    · exact lv_iload_n hx hb hd (m_fin hj) hv (k H locs ls hR' hl)
    · exact lv_iload hx hb hd hv (k H locs ls hR' hl)
  | 3, h, hc =>
    obtain ⟨v, hv, h⟩ := m_get_spec _ _ _ _ (show m_get lc j (fun v => match v with
      | .long x => some (nx, lc, .long x :: st, D)
      | _ => none) = some τ from h)
    cases v <;> try cases h
    have hv := hl.2.2.2 j _ hv
    rcases m_ld_spec (show m_ld b pc j kk nx .lload_n .lload = true from hc) with ⟨hd, rfl, hj⟩ | ⟨hd, rfl⟩
    · exact lv_lload_n hx hb hd (m_fin hj) hv (k H locs ls hR' hl)
    · exact lv_lload hx hb hd hv (k H locs ls hR' hl)
  | 4, h, hc =>
    obtain ⟨v, hv, h⟩ := m_get_spec _ _ _ _ (show m_get lc j (fun v => match v with
      | .ref x => some (nx, lc, .ref x :: st, D)
      | _ => none) = some τ from h)
    cases v <;> try cases h
    have hv := hl.2.2.2 j _ hv
    rcases m_ld_spec (show m_ld b pc j kk nx .aload_n .aload = true from hc) with ⟨hd, rfl, hj⟩ | ⟨hd, rfl⟩
    · exact lv_aload_n hx hb hd (m_fin hj) hv (k H locs ls hR' hl)
    · exact lv_aload hx hb hd hv (k H locs ls hR' hl)
  | 5, h, hc =>
    match st, h with
    | .int x :: st', h =>
      obtain ⟨lc', h, hlf⟩ := m_set_spec _ _ _ _ (show m_set lc j (.int x) (fun lc' => some (nx, lc', st', D)) = some τ from h)
      cases h
      exact m_s_store (v := .int x) (f := .istore_n) (g := .istore) hc hlf hl (fun hd hi h hn kk' => lv_istore_n hx hb hd hi h hn rfl kk') (fun hd h hn kk' => lv_istore hx hb hd h hn rfl kk') (fun ls' hl' => k H locs ls' hR' hl')
  | 6, h, hc =>
    match st, h with
    | .long x :: st', h =>
      obtain ⟨lc', h, hlf⟩ := m_set2_spec _ _ _ _ (show m_set2 lc j (.long x) (fun lc' => some (nx, lc', st', D)) = some τ from h)
      cases h
      have hn : j + 1 < nL := by rw [← hl.2.2.1]; exact hlf.2.1
      rcases m_ld_spec (show m_ld b pc j kk nx .lstore_n .lstore = true from hc) with ⟨hd, rfl, hj⟩ | ⟨hd, rfl⟩
      · exact lv_lstore_n hx hb hd (m_fin hj) hl.has hn rfl (fun ls' h' => k H locs ls' hR' (hl.st2 (v := .long x) hlf h'))
      · exact lv_lstore hx hb hd hl.has hn rfl (fun ls' h' => k H locs ls' hR' (hl.st2 (v := .long x) hlf h'))
  | 7, h, hc =>
    match st, h with
    | .ref x :: st', h =>
      obtain ⟨lc', h, hlf⟩ := m_set_spec _ _ _ _ (show m_set lc j (.ref x) (fun lc' => some (nx, lc', st', D)) = some τ from h)
      cases h
      exact m_s_store (v := .ref x) (f := .astore_n) (g := .astore) hc hlf hl (fun hd hi h hn kk' => lv_astore_n hx hb hd hi h hn rfl kk') (fun hd h hn kk' => lv_astore hx hb hd h hn rfl kk') (fun ls' hl' => k H locs ls' hR' hl')
  | 8, h, hc =>
    obtain ⟨v, hv, h⟩ := m_get_spec _ _ _ _ (show m_get lc j (fun v => match v with
      | .int x => m_set lc j (.int (x + cv)) (fun lc' => some (nx, lc', st, D))
      | _ => none) = some τ from h)
    cases v <;> try cases h
    rename_i x
    obtain ⟨lc', h, hlf⟩ := m_set_spec _ _ _ _ (show m_set lc j (.int (x + cv)) (fun lc' => some (nx, lc', st, D)) = some τ from h)
    cases h
    obtain ⟨h1, h2⟩ := m_and hc
    obtain ⟨hd, rfl⟩ := m_is_spec h1
    have hn : j < nL := by rw [← hl.2.2.1]; exact hlf.2.1
    have hm := m_pl_in ad lc 0 j _ hv
    rw [Nat.zero_add] at hm
    obtain ⟨q, hq⟩ := List.getElem?_of_mem hm
    exact lv_iinc hx hb hd hl.has hq (by rw [of_decide_eq_true h2]) hn rfl (fun ls' h' => k H locs ls' hR' (hl.st (v := .int (x + cv)) hlf h'))
  | 9, h, hc =>
    match st, h with
    | .int y :: .int x :: st', h =>
      obtain ⟨hd, rfl⟩ := m_is_spec hc
      match kk, h, hd with
      | 0, h, hd => cases h; exact lv_iadd hx hb hd (k H locs ls hR' hl)
      | 1, h, hd => cases h; exact lv_isub hx hb hd (k H locs ls hR' hl)
      | 2, h, hd => cases h; exact lv_imul hx hb hd (k H locs ls hR' hl)
      | 3, h, hd => cases h; exact lv_iand hx hb hd (k H locs ls hR' hl)
      | 4, h, hd => cases h; exact lv_ior hx hb hd (k H locs ls hR' hl)
      | 5, h, hd => cases h; exact lv_ixor hx hb hd (k H locs ls hR' hl)
      | 6, h, hd => cases h; exact lv_ishl hx hb hd (k H locs ls hR' hl)
      | 7, h, hd => cases h; exact lv_ishr hx hb hd (k H locs ls hR' hl)
      | 8, h, hd => cases h; exact lv_iushr hx hb hd rfl (k H locs ls hR' hl)
      | z + 9, h, hd => cases h
  | 10, h, hc =>
    match st, h with
    | .long y :: .long x :: st', h =>
      obtain ⟨hd, rfl⟩ := m_is_spec hc
      match kk, h, hd with
      | 0, h, hd => cases h; exact lv_ladd hx hb hd (k H locs ls hR' hl)
      | 1, h, hd => cases h; exact lv_lsub hx hb hd (k H locs ls hR' hl)
      | 2, h, hd => cases h; exact lv_lmul hx hb hd (k H locs ls hR' hl)
      | z + 3, h, hd => cases h
  | 11, h, hc =>
    match st, h with
    | .int x :: st', h =>
      obtain ⟨hd, rfl⟩ := m_is_spec hc
      cases h
      exact lv_i2l hx hb hd rfl (k H locs ls hR' hl)
  | 12, h, hc =>
    match st, h with
    | .int x :: st', h =>
      obtain ⟨hd, rfl⟩ := m_is_spec hc
      cases h
      exact lv_i2b hx hb hd rfl (k H locs ls hR' hl)
  | 13, h, hc =>
    match st, h with
    | .int x :: st', h =>
      obtain ⟨hd, rfl⟩ := m_is_spec hc
      cases h
      exact lv_i2s hx hb hd rfl (k H locs ls hR' hl)
  | 14, h, hc =>
    match st, h with
    | .long y :: .long x :: st', h =>
      obtain ⟨hd, rfl⟩ := m_is_spec hc
      cases h
      exact W.lcmp hx hb hd (k H locs ls hR' hl)
  | 15, h, hc =>
    match st, h with
    | v :: st', h =>
      obtain ⟨hd, rfl⟩ := m_is_spec hc
      have hv : v.category = 1 := by cases v <;> first | rfl | cases h
      have h : (match m_one v with
        | true => some (pc + 1, lc, v :: v :: st', D)
        | false => none) = some τ := h
      split at h
      · cases h
        exact lv_dup hx hb hd (by rw [m_va_cat]; exact hv) (k H locs ls hR' hl)
      · cases h
  | 16, h, hc =>
    match st, h with
    | v :: u :: st', h =>
      obtain ⟨hd, rfl⟩ := m_is_spec hc
      have hv : v.category = 1 := by cases v <;> first | rfl | cases h
      have hu : u.category = 1 := by cases v <;> (try cases h) <;> cases u <;> first | rfl | cases h
      have h : (match m_one v with
        | true => match m_one u with
          | true => some (pc + 1, lc, v :: u :: v :: u :: st', D)
          | false => none
        | false => none) = some τ := h
      split at h
      · split at h
        · cases h
          exact lv_dup2_11 hx hb hd (by rw [m_va_cat]; exact hv) (by rw [m_va_cat]; exact hu) (k H locs ls hR' hl)
        · cases h
      · cases h
  | 17, h, hc =>
    match st, h with
    | .ref a :: st', h =>
      obtain ⟨h1, h3⟩ := m_and hc
      obtain ⟨h1, h2⟩ := m_and h1
      obtain ⟨hd, rfl⟩ := m_is_spec h1
      obtain ⟨C, T, N, hcl, hkN⟩ := m_fn_spec h3
      have hw := m_fk_spec h2
      rw [m_fw_eq hcl] at hw
      obtain ⟨fs, q, hsh, hfs, h⟩ := m_fld_spec (show m_fld a n.toNat kk (fun o => match o with
        | some q => some (pc + 3, lc, .ref q :: st', D)
        | none => some (pc + 3, lc, .int (D a kk) :: st', D)) = some τ from h)
      have hat := m_w_at (ad := ad) (cI := cI) (cR := cR) (D := D) hsh
      have hin := (m_cl_spec hcl).1
      cases q with
      | some q =>
        cases h
        exact va_get (v := .ref (ad q)) hx hb hts hin hown hK hP a hat hcl kk hkN (hts _ hw) (fun _ z => z) (by rw [List.getElem?_mapIdx, hfs]; rfl) hd (k H locs ls hR' hl)
      | none =>
        cases h
        exact va_get (v := .int (D a kk)) hx hb hts hin hown hK hP a hat hcl kk hkN (hts _ hw) (fun _ z => z) (by rw [List.getElem?_mapIdx, hfs]; rfl) hd (k H locs ls hR' hl)
  | 18, h, hc =>
    match st, h with
    | .int x :: .ref a :: st', h =>
      obtain ⟨h1, h3⟩ := m_and hc
      obtain ⟨h1, h2⟩ := m_and h1
      obtain ⟨hd, rfl⟩ := m_is_spec h1
      obtain ⟨C, T, N, hcl, hkN, hfin, hty⟩ := m_fi_spec h3
      have hw := m_fk_spec h2
      rw [m_fw_eq hcl] at hw
      obtain ⟨fs, q, hsh, hfs, h⟩ := m_fld_spec (show m_fld a n.toNat kk (fun o => match o with
        | some _ => none
        | none => some (pc + 3, lc, st', m_up D a kk x)) = some τ from h)
      have hat := m_w_at (ad := ad) (cI := cI) (cR := cR) (D := D) hsh
      obtain ⟨hin, ⟨ty0, hty0⟩, hnm⟩ := m_cl_spec hcl
      cases q with
      | some q => cases h
      | none =>
        cases h
        have ha : a ≠ 60 := by
          rintro rfl
          rw [m_shp60] at hsh
          cases hsh
        refine va_put (v := .int x) (ty := .int) hx hb hts hin ty0 hty0 hnm hown hK hP hD hS a hat hcl kk hkN (hts _ hw) (fun _ z => z) hfin hty rfl rfl (by simpa using (List.getElem?_eq_some_iff.mp hfs).1) hd (fun H1 locs1 hP1 hD1 hS1 => ?_)
        rw [m_w_fld hsh hfs] at hP1 hD1
        exact k H1 locs1 ls ⟨hP1, hD1, hS1, by show m_up D a kk x 60 = xs; rw [m_up_ne (Ne.symm ha)]; exact hxs⟩ hl
  | 19, h, hc =>
    obtain ⟨h1, h2⟩ := m_and hc
    obtain ⟨hd, rfl⟩ := m_is_spec h1
    have h : some (j, lc, st, D) = some τ := h
    cases h
    exact lv_goto hx hb hd (m_to_spec h2) (k H locs ls hR' hl)
  | z + 20, h, hc => cases h
end SGO
