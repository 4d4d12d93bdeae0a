/-- a cell's kind is one that there is -/
theorem m_shp_cl {a ci : Nat} {fs : List (Option Nat)} (h : m_shp[a]? = some (.inr (.inr (ci, fs)))) : ∃ q : vw_C, m_cl[ci]? = some q ∧ q.1 = m_cn ci := by
  have h0 : ∀ sh ∈ m_shp, ∀ ci fs, sh = .inr (.inr (ci, fs)) → ci < 6 := by
    have hd : m_shp.all (fun sh => match sh with
      | .inr (.inr (ci, _)) => decide (ci < 6)
      | _ => true) = true := rfl
    intro sh hs ci fs e
    have := List.all_eq_true.mp hd sh hs
    rw [e] at this
    exact of_decide_eq_true this
  have h1 := h0 _ (List.mem_of_getElem? h) ci fs rfl
  match ci, h1 with
  | 0, _ => exact ⟨_, rfl, rfl⟩
  | 1, _ => exact ⟨_, rfl, rfl⟩
  | 2, _ => exact ⟨_, rfl, rfl⟩
  | 3, _ => exact ⟨_, rfl, rfl⟩
  | 4, _ => exact ⟨_, rfl, rfl⟩
  | 5, _ => exact ⟨_, rfl, rfl⟩
section SCA
variable {p : Program} {l : Launch} {e : Env} {R : Room} {s : State} {m : MethodId} {args : Array Value} {below : List Frame} {meth : Method} {c : Code} {cells slots : Nat} {Q : State → Prop} {dC : Nat → ClassId} {dI : Nat → Nat → Nat} {cI cR : ClassId} {ad : Nat → Nat} {A : Nat → Prop} {xs : Nat → Int32} {nL o : Nat} {b : ByteArray} {lc : m_Lc} {st : List Value} {D : m_D} {τ ρ : m_St} {tb : List m_E} {pc : Nat} {H : Heap} {locs : List Loc} {ls : Array Slot}
/-- behind a call -/
theorem m_callW {nx : Nat} {st' : List Value} {st0 : List Value} {av : Array Value} (hr : va_Run p l e R s m args below meth c H locs cells slots 0 0 (F0 m pc ls st0) (st'.map (m_va ad)) (m_post dC dI cI cR ad (fun r D' => m_X p l e R s m args below meth c cells slots Q dC dI cI cR ad A xs nL (m_beh nx lc st' r D')) xs (m_A ad H.size) av) (m_A ad H.size)) (hnx : nx = pc + 3) (hA : ∀ q : Nat, s.heap.size ≤ q → A q) (hR : m_Rl s dC dI cI cR ad A xs D H locs) (hl : m_LR ad ls nL lc) : W p l e R s m args below meth c H locs cells slots Q (F0 m pc ls st0) := by
  subst hnx
  obtain ⟨hP, hD, hS, hxs⟩ := hR
  intro T hT X
  obtain ⟨v, st₀, t, T', L, h0, X', hL, e1, e2, ⟨⟨r, D', hv, hX, hP', hx'⟩, hz, hk⟩, stp⟩ := hr T hT X
  have hv : v = r.map (m_va ad) := by
    cases hv
    rfl
  subst hv
  rw [h0] at hz hk
  have hA1 : ∀ q, m_A ad H.size q → A q := by
    intro q h
    rcases h with ⟨i, hi, rfl⟩ | h
    · exact m_D_in hD hi
    · exact hA q (Nat.le_trans hS.1 h)
  have hRel : m_Rl s dC dI cI cR ad A xs D' T'.heap (locs ++ L) := by
    refine ⟨by rw [e1]; exact hP', m_D_any hD, ⟨Nat.le_trans hS.1 (by rw [e1]; exact hz), fun q h1 h2 => ?_, fun q hq => ?_⟩, hx'⟩
    · rw [e1, hk q (Nat.lt_of_lt_of_le h1 hS.1) (fun z => h2 (hA1 q z))]
      exact hS.2.1 q h1 h2
    · rcases List.mem_append.mp hq with h | h
      · exact hS.2.2 q h
      · exact hA1 _ (hL q h)
  have key : W p l e R s m args below meth c T'.heap (locs ++ L) cells slots Q (F0 m (pc + 3) ls ((r.map (m_va ad)).toList ++ st'.map (m_va ad))) := by
    cases r with
    | none => exact hX T'.heap (locs ++ L) ls hRel hl
    | some w => exact hX T'.heap (locs ++ L) ls hRel hl
  obtain ⟨t2, a1, b1⟩ := key T' rfl X'
  exact ⟨t2, stp t2 a1, b1⟩
theorem m_blind {L : Nat} {as : List Value} {sz : Nat} : FrameBlind (m_pre dC dI cI cR ad L as D sz) := by
  intro a U g mk q
  obtain ⟨h1, h2, h3, h4, h5, h6, h7⟩ := q
  exact ⟨h1, h2, h3, va_K.moved (u := U) (U := U.calling g mk a) (Vm.Alike.refl U.vm) h4, h5, va_X.moved (u := U) (U := U.calling g mk a) (Vm.Alike.refl U.vm) h6, h7⟩
theorem m_preOk {L : Nat} (hK : va_K (dC, dI) m_cl (m_tys cI cR) s) (hX : va_X (ad 60) L xs s s.heap) (hX1 : ad 60 < s.heap.size) (hX2 : ¬ A (ad 60)) (hR : m_Rl s dC dI cI cR ad A xs D H locs) (as : List Value) {U : State} (hU : U.heap = H) (hW : s.WarmedH U.vm) : m_pre dC dI cI cR ad L as D H.size (as.map (m_va ad)).toArray U := by
  obtain ⟨hP, hD, hS, hxs⟩ := hR
  refine ⟨rfl, by rw [hU], by rw [hU]; exact hP, va_K.moved hW.alike hK, hD.weaken (fun _ _ _ _ => trivial), ?_, Nat.lt_of_lt_of_le hX1 hS.1, fun i hi z => hX2 (z ▸ m_D_in hD hi)⟩
  rw [hU, hxs]
  exact (va_X.moved hW.alike hX).kept (hS.2.1 _ hX1 hX2)
set_option maxHeartbeats 4000000 in
theorem m_sim_ca (C : m_Cx p s m args c dC dI cI cR b o nL) (hck : tb.all (m_ck b o) = true) {L dp : Nat} (hX : va_X (ad 60) L xs s s.heap) (hX1 : ad 60 < s.heap.size) (hX2 : ¬ A (ad 60)) (hA : ∀ q : Nat, s.heap.size ≤ q → A q) (hcs : cells ≤ R.cells ∧ slots ≤ R.slots)
    (hcall : ∀ (y : Nat) (as : List Value) (D : m_D) (K : m_K) (sz : Nat), y < 169 → m_call L dp y as D K → ∃ d, d + 1 ≤ R.frames ∧ 35 + 35 * d ≤ R.locals ∧ Met l (m_M y).2.1 (m_ws y) (m_rm d) (m_pre dC dI cI cR ad L as D sz) (m_post dC dI cI cR ad K (D 60) (m_A ad sz)) 0 0 (m_A ad sz))
    {y : Nat} {as : List Value} {D1 : m_D} {f : Option Value → m_D → m_St} (h : m_ca tb (pc, lc, st, D) = some (y, as, D1, f)) (k : m_call L dp y as D1 (fun r D' => m_X p l e R s m args below meth c cells slots Q dC dI cI cR ad A xs nL (f r D'))) : m_X p l e R s m args below meth c cells slots Q dC dI cI cR ad A xs nL (pc, lc, st, D) := by
  unfold m_ca at h
  dsimp only at h
  cases hf : m_find tb pc with
  | none => rw [hf] at h; cases h
  | some E =>
    rw [hf] at h
    obtain ⟨hm, hpc⟩ := m_find_spec tb hf
    have hc := List.all_eq_true.mp hck E hm
    obtain ⟨pc', nx, op, j, kk, n, cv, w⟩ := E
    subst hpc
    obtain ⟨hx, hb, hml, hown, hts, hK⟩ := C
    intro H locs ls hR hl
    show W p l e R s m args below meth c H locs cells slots Q (F0 m pc' ls (st.map (m_va ad)))
    have hR : m_Rl s dC dI cI cR ad A xs D H locs := hR
    have hl : m_LR ad ls nL lc := hl
    dsimp only at h
    split at h
    · obtain ⟨as0, st', h, hst, hlen⟩ := m_pop_spec _ _ _ _ _ h
      rw [List.append_nil] at h
      split at h
      · rename_i a as'
        split at h
        · rename_i ci fs hsh
          split at h
          · rename_i hbq
            split at h
            · rename_i hbl
              cases h
              obtain ⟨h1, h5⟩ := m_and hc
              obtain ⟨h1, h4⟩ := m_and h1
              obtain ⟨h1, h3⟩ := m_and h1
              obtain ⟨h1, h6⟩ := m_and h1
              obtain ⟨h1, h2⟩ := m_and h1
              obtain ⟨hd, hnx⟩ := m_is_spec h1
              have h6 : y < 169 := of_decide_eq_true h6
              have h5 : y ∈ m_ins := of_decide_eq_true h5
              have h4 : (m_M y).1 = n.toNat / 16 := of_decide_eq_true h4
              have h3 : (m_M y).2.2.2.2.2.2.1 = n.toNat % 16 := of_decide_eq_true h3
              have h2 : (o, j, y) ∈ m_mls := of_decide_eq_true h2
              have hci : ci = (m_M y).1 := by rw [h4]; exact Nat.eq_of_beq_eq_true hbq
              obtain ⟨c1, c2, c3, c4, c5, c6, c7, c8⟩ := m_ckR_spec (m_M_spec h6).2
              obtain ⟨dd, r1, r2, hM⟩ := hcall y _ D _ H.size h6 k
              have hat := m_w_at (ad := ad) (cI := cI) (cR := cR) (D := D) hsh
              have hclx : ∃ q : vw_C, m_cl[ci]? = some q ∧ q.1 = (m_M y).2.1.cls := by
                have h7 := m_shp_cl hsh
                rw [c3, ← hci]
                exact h7
              obtain ⟨q, hq1, hq2⟩ := hclx
              have hcw : CallW R s args (m_cn o) (m_M y).2.1.cls j (m_M y).2.1 (m_M y).2.2.1 (m_M y).2.2.2.1 (m_M y).2.2.2.2.1 (m_ws y) (m_rm dd) 0 0 (m_M y).2.2.2.2.2.2.1 := by
                refine cwV (ws' := m_TB) _ hts ?_ rfl rfl rfl ⟨rfl, c5, c6, c7⟩ ⟨r1, ?_⟩
                · intro z hz
                  rcases List.mem_append.mp hz with hz | hz
                  · simp only [List.mem_cons, List.not_mem_nil, or_false] at hz
                    rcases hz with rfl | rfl | rfl | rfl
                    · exact m_goodT (mw_ok _ h2)
                    · exact m_goodT (iw_ok _ h5)
                    · exact m_goodT (sw_ok _ h5)
                    · rw [c3]
                      exact m_goodT (nw_ok _ (List.mem_range.mpr c4))
                  · rcases List.mem_cons.mp hz with rfl | hz
                    · exact m_goodT (cw_all _ (m_M_in h6))
                    · exact m_goodT hz
                · show 8 + ((m_M y).2.2.2.1 + 11) + 35 * dd ≤ R.locals
                  omega
              have hlen' : as'.length = (m_M y).2.2.2.2.2.2.1 := by
                rw [h3]
                simpa using hlen
              refine m_callW (st' := st') (va_runV (g := F0 m pc' ls (st.map (m_va ad))) (As := as'.map (m_va ad)) (rest := st'.map (m_va ad)) ⟨hx, hb, hml, hown, hts⟩ (hR.2.2.2 ▸ hM) hcw ⟨m_blind, ?_, fun U hU hW => m_preOk hK hX hX1 hX2 hR (.ref a :: as') hU hW⟩ rfl (by rw [List.length_map]; exact hlen') hl.1 ?_ (lv_room (by rw [m_cats_eq]; exact Nat.le_of_ble_eq_true hbl)) hd ⟨hcs.1, hcs.2⟩) hnx hA hR hl
              · obtain ⟨cell, g1, g2, g3⟩ := va_recv (q0 := a) hK hR.1 hq1 hat
                exact ⟨cell, g1, g2, by rw [← hq2]; exact g3⟩
              · show st.map (m_va ad) = _
                rw [hst]
                simp [m_va]
            · cases h
          · cases h
        · cases h
      · cases h
    · obtain ⟨as0, st', h, hst, hlen⟩ := m_pop_spec _ _ _ _ _ h
      rw [List.append_nil] at h
      split at h
      · rename_i hbl
        cases h
        obtain ⟨h1, h5⟩ := m_and hc
        obtain ⟨h1, h3⟩ := m_and h1
        obtain ⟨h1, h6⟩ := m_and h1
        obtain ⟨h1, h2⟩ := m_and h1
        obtain ⟨hd, hnx⟩ := m_is_spec h1
        have h6 : y < 169 := of_decide_eq_true h6
        have h5 : y ∈ m_sts := of_decide_eq_true h5
        have h3 : (m_M y).2.2.2.2.2.2.1 = n.toNat := of_decide_eq_true h3
        have h2 : (o, j, y) ∈ m_mls := of_decide_eq_true h2
        obtain ⟨c1, c2, c3, c4, c5, c6, c7, c8⟩ := m_ckR_spec (m_M_spec h6).2
        obtain ⟨dd, r1, r2, hM⟩ := hcall y _ D _ H.size h6 k
        have hcw : CallB R s args (m_cn o) j (m_M y).2.1 (m_M y).2.2.1 (m_M y).2.2.2.1 (m_M y).2.2.2.2.1 (m_ws y) (m_rm dd) 0 0 (m_M y).2.2.2.2.2.2.1 := by
          refine callB_of (Ts := m_TB) (ws' := m_TB) _ hts ?_ rfl rfl rfl ?_ (hts _ (mw_ok _ h2)) ⟨c5, c6, c7⟩ ⟨r1, ?_⟩
          · intro z hz
            rcases List.mem_cons.mp hz with rfl | hz
            · exact m_goodT (cw_all _ (m_M_in h6))
            · exact m_goodT hz
          · rw [c3]
            exact hts _ (nw_ok _ (List.mem_range.mpr c4))
          · show 8 + ((m_M y).2.2.2.1 + 11) + 35 * dd ≤ R.locals
            omega
        refine m_callW (st' := st') (va_runS (g := F0 m pc' ls (st.map (m_va ad))) (As := as.map (m_va ad)) (rest := st'.map (m_va ad)) ⟨hx, hb, hml, hown, hts⟩ (hR.2.2.2 ▸ hM) ⟨hcw, hts _ (tw_ok _ h5)⟩ ⟨m_blind, fun U hU hW => m_preOk hK hX hX1 hX2 hR as hU hW⟩ rfl (by rw [List.length_map, h3]; exact hlen) hl.1 ?_ (lv_room (by rw [m_cats_eq]; exact Nat.le_of_ble_eq_true hbl)) hd ⟨hcs.1, hcs.2⟩) hnx hA hR hl
        show st.map (m_va ad) = _
        rw [hst]
        simp
      · cases h
    · cases h
/-- how a method may end -/
def m_isR (b : ByteArray) (rk pc : Nat) (r : Option Value) : Prop := (rk = 0 ∧ r = none ∧ decode b pc = .ok (.return_, 1)) ∨ (∃ v : Int32, r = some (.int v) ∧ decode b pc = .ok (.ireturn, 1) ∧ (rk = 1 ∨ (rk = 2 ∧ (v = 0 ∨ v = 1)))) ∨ (∃ v : Int64, r = some (.long v) ∧ decode b pc = .ok (.lreturn, 1) ∧ rk = 3)
set_option maxHeartbeats 4000000 in
theorem m_sim_rt (hck : tb.all (m_ck b o) = true) {rk : Nat} {Qm : m_K} (hret : ∀ (pc : Nat) (H : Heap) (locs : List Loc) (ls : Array Slot) (r : Option Value) (D : m_D), m_isR b rk pc r → m_Rl s dC dI cI cR ad A xs D H locs → Qm r D → W p l e R s m args below meth c H locs cells slots Q (F0 m pc ls r.toList)) {q : Prop} {r : Option Value} {D1 : m_D} (h : m_rt tb rk (pc, lc, st, D) = some (q, r, D1)) (hq : q) (k : Qm r D1) : m_X p l e R s m args below meth c cells slots Q dC dI cI cR ad A xs nL (pc, lc, st, D) := by
  unfold m_rt at h
  dsimp only at h
  cases hf : m_find tb pc with
  | none => rw [hf] at h; cases h
  | some E =>
    rw [hf] at h
    obtain ⟨hm, hpc⟩ := m_find_spec tb hf
    have hc := List.all_eq_true.mp hck E hm
    obtain ⟨pc', nx, op, j, kk, n, cv, w⟩ := E
    subst hpc
    intro H locs ls hR hl
    show W p l e R s m args below meth c H locs cells slots Q (F0 m pc' ls (st.map (m_va ad)))
    dsimp only at h
    split at h
    · split at h
      · split at h
        · cases h
          exact hret pc' H locs ls none D (Or.inl ⟨rfl, rfl, (m_is_spec hc).1⟩) hR k
        · cases h
      · cases h
    · split at h
      · split at h
        · cases h
          exact hret pc' H locs ls _ D (Or.inr (Or.inl ⟨_, rfl, (m_is_spec hc).1, Or.inl rfl⟩)) hR k
        · cases h
          exact hret pc' H locs ls _ D (Or.inr (Or.inl ⟨_, rfl, (m_is_spec hc).1, Or.inr ⟨rfl, hq⟩⟩)) hR k
        · cases h
      · cases h
    · split at h
      · split at h
        · cases h
          exact hret pc' H locs ls _ D (Or.inr (Or.inr ⟨_, rfl, (m_is_spec hc).1, rfl⟩)) hR k
        · cases h
      · cases h
    · cases h
/-- all that the small machine does, the real one does -/
theorem m_sim (C : m_Cx p s m args c dC dI cI cR b o nL) (hck : tb.all (m_ck b o) = true) {L dp : Nat} (hX : va_X (ad 60) L xs s s.heap) (hX1 : ad 60 < s.heap.size) (hX2 : ¬ A (ad 60)) (hA : ∀ q : Nat, s.heap.size ≤ q → A q) (hcs : cells ≤ R.cells ∧ slots ≤ R.slots) (hdp : 1 ≤ dp → 1 ≤ R.frames ∧ 18 ≤ R.locals)
    (hcall : ∀ (y : Nat) (as : List Value) (D : m_D) (K : m_K) (sz : Nat), y < 169 → m_call L dp y as D K → ∃ d, d + 1 ≤ R.frames ∧ 35 + 35 * d ≤ R.locals ∧ Met l (m_M y).2.1 (m_ws y) (m_rm d) (m_pre dC dI cI cR ad L as D sz) (m_post dC dI cI cR ad K (D 60) (m_A ad sz)) 0 0 (m_A ad sz))
    {rk : Nat} {Qm : m_K} (hret : ∀ (pc : Nat) (H : Heap) (locs : List Loc) (ls : Array Slot) (r : Option Value) (D : m_D), m_isR b rk pc r → m_Rl s dC dI cI cR ad A xs D H locs → Qm r D → W p l e R s m args below meth c H locs cells slots Q (F0 m pc ls r.toList)) {σ : m_St} (h : m_WP L dp (m_call L dp) Qm tb rk σ) : m_X p l e R s m args below meth c cells slots Q dC dI cI cR ad A xs nL σ := by
  refine h _ (fun τ hs => ?_)
  obtain ⟨pc, lc, st, D⟩ := τ
  rcases hs with ⟨τ, a, k⟩ | ⟨q, τ, ρ, a, k, k'⟩ | ⟨q, τ, a, hq, k⟩ | ⟨i, js, f, a, hi, k⟩ | ⟨y, as, D1, f, a, k⟩ | ⟨q, r, D1, a, hq, k⟩ | ⟨x, d, cs, f, a, k⟩
  · exact m_sim_go C hck a k
  · exact m_sim_br C hck a k k'
  · exact m_sim_sd C hck hX hX1 hX2 hdp a hq k
  · exact m_sim_al C hck a hi k
  · exact m_sim_ca C hck hX hX1 hX2 hA hcs hcall a k
  · exact m_sim_rt hck hret a hq k
  · exact m_sim_sw C hck a k
end SCA
set_option maxHeartbeats 4000000 in
theorem m_met_step (l : Launch) (dC : Nat → ClassId) (dI : Nat → Nat → Nat) (cI cR : ClassId) (ad : Nat → Nat) (L d : Nat) (hcall : ∀ (y : Nat) (as : List Value) (D : m_D) (K : m_K) (sz : Nat), y < 169 → m_call L d y as D K → ∃ d', d' + 1 ≤ (m_rm d).frames ∧ 35 + 35 * d' ≤ (m_rm d).locals ∧ Met l (m_M y).2.1 (m_ws y) (m_rm d') (m_pre dC dI cI cR ad L as D sz) (m_post dC dI cI cR ad K (D 60) (m_A ad sz)) 0 0 (m_A ad sz)) (y : Nat) (as : List Value) (D : m_D) (K : m_K) (sz : Nat) (hy : y < 169) (hk : m_call L (d + 1) y as D K) : Met l (m_M y).2.1 (m_ws y) (m_rm d) (m_pre dC dI cI cR ad L as D sz) (m_post dC dI cI cR ad K (D 60) (m_A ad sz)) 0 0 (m_A ad sz) := by
  obtain ⟨lc, hent, hwp⟩ := hk
  obtain ⟨hck, hckR⟩ := m_M_spec hy
  obtain ⟨c1, c2, c3, c4, c5, c6, c7, c8⟩ := m_ckR_spec hckR
  refine va_MetF (cc := (m_M y).2.2.1) (maxL := (m_M y).2.2.2.1) (ret := (m_M y).2.2.2.2.1) (ws' := m_TB) c2 rfl ?_
  intro p e s m args below meth c s₁ B hml hv
  obtain ⟨rfl, hsz, hP, hK, hD0, hX, hX1, hX2⟩ := hv
  have hx := B.exec
  have hb := B.bytes
  have hr := B.returns
  have hts0 := atoms_spec (ws := m_ws y) B.pre
  have hts : ∀ w ∈ m_TB, w.before (as.map (m_va ad)).toArray s = true := fun w h => hts0 w (List.mem_cons_of_mem _ h)
  have hown : s.vm.findClass (m_cn (m_M y).1) = some m.cls := by rw [← c3]; exact findClass_of_methodNamed B.named
  have hlocks := B.notSynchronized
  subst hsz
  have hD : va_D (m_A ad s.heap.size) (m_w ad cI cR D) := m_D_self hD0
  have hA : ∀ q : Nat, s.heap.size ≤ q → m_A ad s.heap.size q := fun q h => Or.inr h
  have hX3 : ¬ m_A ad s.heap.size (ad 60) := by
    rintro (⟨i, hi, h⟩ | h)
    · exact hX2 i hi h.symm
    · exact absurd hX1 (Nat.not_lt.mpr h)
  obtain ⟨lc', e1, e2, e3, e4⟩ := m_ent_spec ad _ 0 as _ _ hent
  cases e1
  have hl := lv_entry (as.map (m_va ad)) (n := (m_M y).2.2.2.1) e3
  rw [lg_entry_eq]
  generalize (lg_sl (as.map (m_va ad)) ++ List.replicate ((m_M y).2.2.2.1 - (lg_sl (as.map (m_va ad))).length) Slot.unset).toArray = ls at hl ⊢
  have hLR : m_LR ad ls (m_M y).2.2.2.1 lc := by
    refine ⟨hl.1, hl.2.1, e2, fun i v hv => ?_⟩
    have := hl.2.2 _ (e4 i v hv)
    simpa using this
  have hret : ∀ (pc : Nat) (H : Heap) (locs : List Loc) (ls : Array Slot) (r : Option Value) (D' : m_D), m_isR (m_M y).2.2.1 (m_M y).2.2.2.2.2.1 pc r → m_Rl s dC dI cI cR ad (m_A ad s.heap.size) (D 60) D' H locs → K r D' → W p l e (headSpec (m_ws y) (m_rm d)).room s m (as.map (m_va ad)).toArray below meth c H locs 0 0 (MQ below (m_post dC dI cI cR ad K (D 60) (m_A ad s.heap.size)) (as.map (m_va ad)).toArray s 0 0 (m_A ad s.heap.size)) (F0 m pc ls r.toList) := by
    intro pc H locs ls r D' hi hR hQ
    obtain ⟨hP', hD', hS', hxs'⟩ := hR
    have hq : ∀ t : State, t.heap = H → s.WarmedH t.vm → m_post dC dI cI cR ad K (D 60) (m_A ad s.heap.size) (as.map (m_va ad)).toArray s (.returned (r.map (m_va ad))) t := fun t ht _ => ⟨⟨r, D', rfl, hQ, by rw [ht]; exact hP', hxs'⟩, hS'.F ht⟩
    rcases hi with ⟨a1, rfl, a3⟩ | ⟨v, rfl, a2, a3⟩ | ⟨v, rfl, a2, a3⟩
    · rcases c8 with ⟨b1, b2⟩ | ⟨b1, b2⟩ | ⟨b1, b2⟩ | ⟨b1, b2⟩
      · exact W.vret hx hb (by rw [hr, b2]) hq hS'.2.2 a3
      · omega
      · omega
      · omega
    · rcases a3 with a3 | ⟨a3, a4⟩
      · rcases c8 with ⟨b1, b2⟩ | ⟨b1, b2⟩ | ⟨b1, b2⟩ | ⟨b1, b2⟩
        · omega
        · exact W.iret hx hb (by rw [hr, b2]) hq hS'.2.2 a2
        · omega
        · omega
      · rcases c8 with ⟨b1, b2⟩ | ⟨b1, b2⟩ | ⟨b1, b2⟩ | ⟨b1, b2⟩
        · omega
        · omega
        · exact W.zret (ty := .boolean) hx hb (by rw [hr, b2]) (by rcases a4 with rfl | rfl <;> rfl) hq hS'.2.2 a2
        · omega
    · rcases c8 with ⟨b1, b2⟩ | ⟨b1, b2⟩ | ⟨b1, b2⟩ | ⟨b1, b2⟩
      · omega
      · omega
      · omega
      · exact W.lret hx hb (by rw [hr, b2]) hq hS'.2.2 a2
  have hdp : 1 ≤ d → 1 ≤ (headSpec (m_ws y) (m_rm d)).room.frames ∧ 18 ≤ (headSpec (m_ws y) (m_rm d)).room.locals := fun h => ⟨h, by show 18 ≤ 35 * d; omega⟩
  exact m_sim (R := (headSpec (m_ws y) (m_rm d)).room) (cells := 0) (slots := 0) ⟨hx, hb, hml, hown, hts, hK⟩ hck hX hX1 hX3 hA ⟨Nat.zero_le _, Nat.zero_le _⟩ hdp hcall hret hwp s.heap [] ls ⟨hP, hD, va_S.rf, rfl⟩ hLR
set_option maxHeartbeats 4000000 in
/-- every method, at every depth -/
theorem m_met (l : Launch) (dC : Nat → ClassId) (dI : Nat → Nat → Nat) (cI cR : ClassId) (ad : Nat → Nat) (L : Nat) : ∀ (d y : Nat) (as : List Value) (D : m_D) (K : m_K) (sz : Nat), y < 169 → m_call L (d + 1) y as D K → Met l (m_M y).2.1 (m_ws y) (m_rm d) (m_pre dC dI cI cR ad L as D sz) (m_post dC dI cI cR ad K (D 60) (m_A ad sz)) 0 0 (m_A ad sz) := by
  intro d
  induction d with
  | zero =>
    intro y as D K sz hy hk
    exact m_met_step l dC dI cI cR ad L 0 (fun y as D K sz _ h => absurd h (by simp [m_call])) y as D K sz hy hk
  | succ d ih =>
    intro y as D K sz hy hk
    exact m_met_step l dC dI cI cR ad L (d + 1) (fun y as D K sz h1 h2 => ⟨d, Nat.le_refl _, by show 35 + 35 * d ≤ 35 * (d + 1); omega, ih y as D K sz h1 h2⟩) y as D K sz hy hk
