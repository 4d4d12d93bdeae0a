/-! ===== branches, steps that ask, switches ===== -/
section SBR
variable {p : Program} {l : Launch} {e : Env} {R : Room} {s : State} {m : MethodId} {args : Array Value} {below : List Frame} {meth : Method} {c : Code} {cells slots : Nat} {Q : State → Prop} {dC : Nat → ClassId} {dI : Nat → Nat → Nat} {cI cR : ClassId} {ad : Nat → Nat} {A : Nat → Prop} {xs : Nat → Int32} {nL o : Nat} {b : ByteArray} {lc : m_Lc} {st : List Value} {D : m_D} {τ ρ : m_St} {tb : List m_E} {pc : Nat}
set_option maxHeartbeats 4000000 in
theorem m_sim_go (C : m_Cx p s m args c dC dI cI cR b o nL) (hck : tb.all (m_ck b o) = true) (h : m_go tb (pc, lc, st, D) = some τ) (k : m_X p l e R s m args below meth c cells slots Q dC dI cI cR ad A xs nL τ) : m_X p l e R s m args below meth c cells slots Q dC dI cI cR ad A xs nL (pc, lc, st, D) := by
  unfold m_go at h
  dsimp only at h
  cases hf : m_find tb pc with
  | none => rw [hf] at h; cases h
  | some E =>
    rw [hf] at h
    obtain ⟨hm, hpc⟩ := m_find_spec tb hf
    subst hpc
    exact m_sim_ex C E (List.all_eq_true.mp hck E hm) h k
set_option maxHeartbeats 4000000 in
theorem m_sim_br (C : m_Cx p s m args c dC dI cI cR b o nL) (hck : tb.all (m_ck b o) = true) {q : Prop} (h : m_br tb (pc, lc, st, D) = some (q, τ, ρ)) (k1 : q → m_X p l e R s m args below meth c cells slots Q dC dI cI cR ad A xs nL τ) (k2 : ¬ q → m_X p l e R s m args below meth c cells slots Q dC dI cI cR ad A xs nL ρ) : m_X p l e R s m args below meth c cells slots Q dC dI cI cR ad A xs nL (pc, lc, st, D) := by
  unfold m_br at h
  dsimp only at h
  cases hf : m_find tb pc with
  | none => rw [hf] at h; cases h
  | some E =>
    rw [hf] at h
    obtain ⟨hm, hpc⟩ := m_find_spec tb hf
    have hc := List.all_eq_true.mp hck E hm
    obtain ⟨pc', nx, op, j, kk, n, cv, w⟩ := E
    subst hpc
    obtain ⟨hx, hb, hml, hown, hts, hK⟩ := C
    intro H locs ls hR hl
    show W p l e R s m args below meth c H locs cells slots Q (F0 m pc' ls (st.map (m_va ad)))
    dsimp only at h
    split at h
    · obtain ⟨h1, h2⟩ := m_and hc
      obtain ⟨hd, rfl⟩ := m_is_spec h1
      have ht := m_to_spec h2
      split at h
      · rename_i x st'
        match kk, h, hd with
        | 0, h, hd => cases h; exact lv_if_eq hx hb hd ht (fun z => k1 z H locs ls hR hl) (fun z => k2 z H locs ls hR hl)
        | 1, h, hd => cases h; exact lv_if_ne hx hb hd ht (fun z => k1 z H locs ls hR hl) (fun z => k2 (fun y => y z) H locs ls hR hl)
        | 2, h, hd => cases h; exact lv_if_lt hx hb hd ht (fun z => k1 z H locs ls hR hl) (fun z => k2 z H locs ls hR hl)
        | 3, h, hd => cases h; exact lv_if_ge hx hb hd ht (fun z => k1 z H locs ls hR hl) (fun z => k2 z H locs ls hR hl)
        | 4, h, hd => cases h; exact lv_if_gt hx hb hd ht (fun z => k1 z H locs ls hR hl) (fun z => k2 z H locs ls hR hl)
        | 5, h, hd => cases h; exact lv_if_le hx hb hd ht (fun z => k1 z H locs ls hR hl) (fun z => k2 z H locs ls hR hl)
        | z + 6, h, hd => cases h
      · cases h
    · obtain ⟨h1, h2⟩ := m_and hc
      obtain ⟨hd, rfl⟩ := m_is_spec h1
      have ht := m_to_spec h2
      split at h
      · rename_i y x st'
        match kk, h, hd with
        | 0, h, hd => cases h; exact lv_icmp_eq hx hb hd ht (fun z => k1 z H locs ls hR hl) (fun z => k2 z H locs ls hR hl)
        | 1, h, hd => cases h; exact lv_icmp_ne hx hb hd ht (fun z => k1 z H locs ls hR hl) (fun z => k2 (fun y => y z) H locs ls hR hl)
        | 2, h, hd => cases h; exact lv_icmp_lt hx hb hd ht (fun z => k1 z H locs ls hR hl) (fun z => k2 z H locs ls hR hl)
        | 3, h, hd => cases h; exact lv_icmp_ge hx hb hd ht (fun z => k1 z H locs ls hR hl) (fun z => k2 z H locs ls hR hl)
        | 4, h, hd => cases h; exact lv_icmp_gt hx hb hd ht (fun z => k1 z H locs ls hR hl) (fun z => k2 z H locs ls hR hl)
        | 5, h, hd => cases h; exact lv_icmp_le hx hb hd ht (fun z => k1 z H locs ls hR hl) (fun z => k2 z H locs ls hR hl)
        | z + 6, h, hd => cases h
      · cases h
    · cases h
theorem m_len_spec {β : Type} {L a : Nat} {f : Nat → Option β} {r : β} (h : m_len L a f = some r) : (a = 60 ∧ f L = some r) ∨ (a ≠ 60 ∧ ∃ n, m_shp[a]? = some (.inl n) ∧ f n = some r) := by
  unfold m_len at h
  split at h
  · rename_i hb
    exact Or.inl ⟨Nat.eq_of_beq_eq_true hb, h⟩
  · rename_i hb
    have ha : a ≠ 60 := fun z => by rw [z] at hb; cases hb
    split at h
    · rename_i n hn
      exact Or.inr ⟨ha, n, hn, h⟩
    · cases h
set_option maxHeartbeats 4000000 in
theorem m_sim_sd (C : m_Cx p s m args c dC dI cI cR b o nL) (hck : tb.all (m_ck b o) = true) {L dp : Nat} (hX : va_X (ad 60) L xs s s.heap) (hX1 : ad 60 < s.heap.size) (hX2 : ¬ A (ad 60)) (hdp : 1 ≤ dp → 1 ≤ R.frames ∧ 18 ≤ R.locals) {q : Prop} (h : m_sd L dp tb (pc, lc, st, D) = some (q, τ)) (hq : q) (k : m_X p l e R s m args below meth c cells slots Q dC dI cI cR ad A xs nL τ) : m_X p l e R s m args below meth c cells slots Q dC dI cI cR ad A xs nL (pc, lc, st, D) := by
  unfold m_sd at h
  dsimp only at h
  cases hf : m_find tb pc with
  | none => rw [hf] at h; cases h
  | some E =>
    rw [hf] at h
    obtain ⟨hm, hpc⟩ := m_find_spec tb hf
    have hc := List.all_eq_true.mp hck E hm
    obtain ⟨pc', nx, op, j, kk, n, cv, w⟩ := E
    subst hpc
    obtain ⟨hx, hb, hml, hown, hts, hK⟩ := C
    intro H locs ls hR hl
    show W p l e R s m args below meth c H locs cells slots Q (F0 m pc' ls (st.map (m_va ad)))
    have hR' := hR
    obtain ⟨hP, hD, hS, hxs⟩ := hR
    have hxs' : D 60 = xs := hxs
    dsimp only at h
    split at h
    · obtain ⟨hd, rfl⟩ := m_is_spec hc
      split at h
      · rename_i i a st'
        rcases m_len_spec h with ⟨rfl, h⟩ | ⟨ha, z, hz, h⟩
        · cases h
          have k1 := k H locs ls hR' hl
          dsimp only at k1
          rw [hxs'] at k1
          exact va_sld hx hb hX hX1 hX2 hS hq hd k1
        · cases h
          exact va_iald hx hb hK hP a 0 (m_w_at hz) rfl hq hd (k H locs ls hR' hl)
      · cases h
    · obtain ⟨hd, rfl⟩ := m_is_spec hc
      split at h
      · rename_i x i a st'
        split at h
        · rename_i z hz
          cases h
          have ha : a ≠ 60 := by
            rintro rfl
            rw [m_shp60] at hz
            cases hz
          refine va_iast hx hb hK hP hD hS a 0 (m_w_at hz) rfl hq hd (fun H1 locs1 hP1 hD1 hS1 => ?_)
          rw [m_w_arr hz] at hP1 hD1
          exact k H1 locs1 ls ⟨hP1, hD1, hS1, by show m_up D a _ x 60 = xs; rw [m_up_ne (Ne.symm ha)]; exact hxs'⟩ hl
        · cases h
      · cases h
    · obtain ⟨hd, rfl⟩ := m_is_spec hc
      split at h
      · rename_i a st'
        rcases m_len_spec h with ⟨rfl, h⟩ | ⟨ha, z, hz, h⟩
        · cases h
          exact va_slen hx hb hX hX1 hX2 hS hd (k H locs ls hR' hl)
        · cases h
          exact va_alen hx hb hK hP a 0 (m_w_at hz) rfl rfl hd (k H locs ls hR' hl)
      · cases h
    · obtain ⟨hd, rfl⟩ := m_is_spec hc
      split at h
      · cases h
        exact lv_idiv hx hb hd hq (k H locs ls hR' hl)
      · cases h
    · obtain ⟨hd, rfl⟩ := m_is_spec hc
      split at h
      · cases h
        exact lv_irem hx hb hd hq (k H locs ls hR' hl)
      · cases h
    · obtain ⟨hd, rfl⟩ := m_is_spec hc
      split at h
      · cases h
        exact lv_ldiv hx hb hd hq (k H locs ls hR' hl)
      · cases h
    · obtain ⟨hd, rfl⟩ := m_is_spec hc
      split at h
      · cases h
        exact lv_lrem hx hb hd hq (k H locs ls hR' hl)
      · cases h
    · split at h
      · rename_i x a st'
        obtain ⟨h1, h3⟩ := m_and hc
        obtain ⟨h1, h2⟩ := m_and h1
        obtain ⟨hd, rfl⟩ := m_is_spec h1
        obtain ⟨C, T, N, hcl, hkN, hfin, hty⟩ := m_fi_spec h3
        have hw := m_fk_spec h2
        rw [m_fw_eq hcl] at hw
        obtain ⟨fs, u, hsh, hfs, h⟩ := m_fld_spec h
        have hat := m_w_at (ad := ad) (cI := cI) (cR := cR) (D := D) hsh
        obtain ⟨hin, ⟨ty0, hty0⟩, hnm⟩ := m_cl_spec hcl
        cases u with
        | some u => cases h
        | none =>
          cases h
          have ha : a ≠ 60 := by
            rintro rfl
            rw [m_shp60] at hsh
            cases hsh
          refine va_put (v := .int x) (ty := .boolean) hx hb hts hin ty0 hty0 hnm hown hK hP hD hS a hat hcl kk hkN (hts _ hw) (fun _ z => z) hfin hty (by rcases hq with rfl | rfl <;> rfl) (by rcases hq with rfl | rfl <;> rfl) (by simpa using (List.getElem?_eq_some_iff.mp hfs).1) hd (fun H1 locs1 hP1 hD1 hS1 => ?_)
          rw [m_w_fld hsh hfs] at hP1 hD1
          exact k H1 locs1 ls ⟨hP1, hD1, hS1, by show m_up D a kk x 60 = xs; rw [m_up_ne (Ne.symm ha)]; exact hxs'⟩ hl
      · cases h
    · split at h
      · cases h
      · rename_i dp'
        split at h
        · rename_i z dq a1 sp a0 st'
          split at h
          · rename_i n0 hn0
            split at h
            · rename_i n1 hn1
              split at h
              · cases h
                obtain ⟨h1, h2⟩ := m_and hc
                obtain ⟨hd, rfl⟩ := m_is_spec h1
                obtain ⟨g1, g2, g3, g4, g5⟩ := hq
                obtain ⟨r1, r2⟩ := hdp (by omega)
                have ha : a1 ≠ 60 := by
                  rintro rfl
                  rw [m_shp60] at hn1
                  cases hn1
                have hz := fun w hw => hts w (zw_ok w hw)
                refine va_copyi (rest := []) hx hb (by rw [hml]; exact hl.1.symm) hown (hts _ (aw_ok _ (of_decide_eq_true h2))) (hz _ (by simp)) (hz _ (by simp)) (hz _ (by simp)) hK hP hD hS a0 a1 0 0 (m_w_at hn0) (m_w_at hn1) rfl rfl rfl g1 g2 g3 g4 g5 (fun _ _ => rfl) r1 (by simpa [nativeFrameWords] using r2) hd (fun H1 locs1 hP1 hD1 hS1 => ?_)
                rw [m_w_cpy hn1] at hP1 hD1
                exact k H1 locs1 ls ⟨hP1, hD1, hS1, by show m_cp D a0 a1 _ _ _ 60 = xs; rw [m_cp_ne (Ne.symm ha)]; exact hxs'⟩ hl
              · cases h
            · cases h
          · cases h
        · cases h
    · cases h
set_option maxHeartbeats 4000000 in
theorem m_sim_al (C : m_Cx p s m args c dC dI cI cR b o nL) (hck : tb.all (m_ck b o) = true) {i : Int32} {js : List Nat} {f : Nat → m_St} (h : m_al tb (pc, lc, st, D) = some (i, js, f)) (hi : vp_in i js.length) (k : ∀ q, js[i.toNatClampNeg]? = some q → m_X p l e R s m args below meth c cells slots Q dC dI cI cR ad A xs nL (f q)) : m_X p l e R s m args below meth c cells slots Q dC dI cI cR ad A xs nL (pc, lc, st, D) := by
  unfold m_al at h
  dsimp only at h
  cases hf : m_find tb pc with
  | none => rw [hf] at h; cases h
  | some E =>
    rw [hf] at h
    obtain ⟨hm, hpc⟩ := m_find_spec tb hf
    have hc := List.all_eq_true.mp hck E hm
    obtain ⟨pc', nx, op, j, kk, n, cv, w⟩ := E
    subst hpc
    obtain ⟨hx, hb, hml, hown, hts, hK⟩ := C
    intro H locs ls hR hl
    show W p l e R s m args below meth c H locs cells slots Q (F0 m pc' ls (st.map (m_va ad)))
    dsimp only at h
    split at h
    · obtain ⟨hd, rfl⟩ := m_is_spec hc
      split at h
      · rename_i i' a st'
        split at h
        · rename_i js' hjs
          cases h
          have hlt : i.toNatClampNeg < js.length := Nat.not_le.mp fun q => hi (Or.inr q)
          have hq : js[i.toNatClampNeg]? = some js[i.toNatClampNeg] := List.getElem?_eq_getElem hlt
          have k1 := k _ hq H locs ls hR hl
          refine va_aldq (C := "RainRead$Sheet") (f := fun k => (js[k]?).map ad) hx hb hK hR.1 a 1 (m_w_at hjs) rfl hi hd ?_
          show W p l e R s m args below meth c H locs cells slots Q (F0 m (pc' + 1) ls (va_rf ((js[i.toNatClampNeg]?).map ad) :: _))
          rw [hq]
          exact k1
        · cases h
      · cases h
    · cases h
theorem m_cs_spec {X : Nat → Prop} {x : Int32} {d : Nat} : ∀ cs : List (Int32 × Nat), m_cs X x d cs → (∃ (i t : Nat), cs[i]? = some (x, t) ∧ X t) ∨ ((∀ q ∈ cs, x ≠ q.1) ∧ X d)
  | [], h => Or.inr ⟨fun q hq => (by cases hq), h⟩
  | (v, t) :: r, h => by
    by_cases hv : x = v
    · subst hv
      exact Or.inl ⟨0, t, rfl, h.1 rfl⟩
    · rcases m_cs_spec r (h.2 hv) with ⟨i, t', a, b⟩ | ⟨a, b⟩
      · exact Or.inl ⟨i + 1, t', by simpa using a, b⟩
      · refine Or.inr ⟨fun q hq => ?_, b⟩
        rcases List.mem_cons.mp hq with rfl | hq
        · exact hv
        · exact a q hq
theorem m_cs_look {X : Nat → Prop} {x : Int32} {d pc : Nat} {dd : Int} (hd : (pc : Int) + dd = (d : Int)) : ∀ (cs : List (Int32 × Nat)) (ps : List (Int × Int)), ps.map (fun q => (q.1, (pc : Int) + q.2)) = cs.map (fun q => (q.1.toInt, (q.2 : Int))) → m_cs X x d cs → ∃ t : Nat, (pc : Int) + Op.lookupswitch.offset ps dd x.toInt = (t : Int) ∧ X t
  | [], [], _, h => ⟨d, hd, h⟩
  | (v, t) :: r, (a, o) :: ps, e, h => by
    simp only [List.map_cons, List.cons.injEq, Prod.mk.injEq] at e
    obtain ⟨⟨e1, e2⟩, e3⟩ := e
    rw [Op.lookupswitch.offset_cons]
    by_cases hv : x = v
    · subst hv
      rw [if_pos e1]
      exact ⟨t, e2, h.1 rfl⟩
    · rw [if_neg (fun z => hv (Int32.toInt_inj.mp (by rw [← e1, z])))]
      exact m_cs_look hd r ps e3 (h.2 hv)
  | [], _ :: _, e, _ => by cases e
  | _ :: _, [], e, _ => by cases e
set_option maxHeartbeats 4000000 in
theorem m_sim_sw (C : m_Cx p s m args c dC dI cI cR b o nL) (hck : tb.all (m_ck b o) = true) {x : Int32} {t : Nat} {cs : List (Int32 × Nat)} {f : Nat → m_St} (h : m_sw tb (pc, lc, st, D) = some (x, t, cs, f)) (k : m_cs (fun t => m_X p l e R s m args below meth c cells slots Q dC dI cI cR ad A xs nL (f t)) x t cs) : m_X p l e R s m args below meth c cells slots Q dC dI cI cR ad A xs nL (pc, lc, st, D) := by
  unfold m_sw at h
  dsimp only at h
  cases hf : m_find tb pc with
  | none => rw [hf] at h; cases h
  | some E =>
    rw [hf] at h
    obtain ⟨hm, hpc⟩ := m_find_spec tb hf
    have hc := List.all_eq_true.mp hck E hm
    obtain ⟨pc', nx, op, j, kk, n, cv, w⟩ := E
    subst hpc
    obtain ⟨hx, hb, hml, hown, hts, hK⟩ := C
    intro H locs ls hR hl
    show W p l e R s m args below meth c H locs cells slots Q (F0 m pc' ls (st.map (m_va ad)))
    dsimp only at h
    split at h
    · split at h
      · rename_i x' st'
        cases h
        have hc : (match decode b pc' with
          | .ok (.tableswitch d lo hi offs, _) => m_to pc' d t && decide (hi = lo + ((m_sws.getD kk []).length : Int) - 1) && (m_sws.getD kk []).zipIdx.all (fun q => decide (q.1.1.toInt = lo + (q.2 : Int)) && (match offs[q.2]? with
            | some off => m_to pc' off q.1.2
            | none => false))
          | _ => false) = true := hc
        split at hc
        · rename_i d lo hi offs len hd
          obtain ⟨h1, h3⟩ := m_and hc
          obtain ⟨h1, h2⟩ := m_and h1
          have h2 := of_decide_eq_true h2
          have ht := m_to_spec h1
          have hall := List.all_eq_true.mp h3
          have hz : ∀ (i : Nat) (q : Int32 × Nat), (m_sws.getD kk [])[i]? = some q → q.1.toInt = lo + (i : Int) ∧ ∃ off, offs[i]? = some off ∧ (pc' : Int) + off = (q.2 : Int) := by
            intro i q hi
            have hmem : (q, i) ∈ (m_sws.getD kk []).zipIdx := by
              rw [List.mem_zipIdx_iff_getElem?]
              exact hi
            obtain ⟨a1, a2⟩ := m_and (hall _ hmem)
            refine ⟨of_decide_eq_true a1, ?_⟩
            dsimp only at a2
            split at a2
            · rename_i off ho
              exact ⟨off, ho, m_to_spec a2⟩
            · cases a2
          rcases m_cs_spec _ k with ⟨i, t', a1, a2⟩ | ⟨a1, a2⟩
          · obtain ⟨b1, off, b2, b3⟩ := hz i _ a1
            have hlt : i < (m_sws.getD kk []).length := (List.getElem?_eq_some_iff.mp a1).1
            dsimp only at b1 b3
            exact lv_tableIn hx hb hd (by omega) (by omega) (by rw [show (x.toInt - lo).toNat = i by omega]; exact b2) b3 (a2 H locs ls hR hl)
          · refine lv_tableOut hx hb hd ?_ ht (a2 H locs ls hR hl)
            rcases Int.lt_or_le x.toInt lo with g | g
            · exact Or.inl g
            · rcases Int.lt_or_le hi x.toInt with g2 | g2
              · exact Or.inr g2
              · exfalso
                have hlt : (x.toInt - lo).toNat < (m_sws.getD kk []).length := by omega
                have hq := List.getElem?_eq_getElem hlt
                obtain ⟨b1, -⟩ := hz _ _ hq
                refine a1 _ (List.mem_of_getElem? hq) (Int32.toInt_inj.mp ?_)
                rw [b1]
                omega
        · cases hc
      · cases h
    · split at h
      · rename_i x' st'
        cases h
        have hc : (match decode b pc' with
          | .ok (.lookupswitch d ps, _) => m_to pc' d t && (ps.toList.zip (ps.toList.drop 1)).all (fun (a, next) => a.1 < next.1) && decide (ps.toList.map (fun q => (q.1, (pc' : Int) + q.2)) = (m_sws.getD kk []).map (fun q => (q.1.toInt, (q.2 : Int))))
          | _ => false) = true := hc
        split at hc
        · rename_i d ps len hd
          obtain ⟨h1, h3⟩ := m_and hc
          obtain ⟨h1, h2⟩ := m_and h1
          obtain ⟨t', a1, a2⟩ := m_cs_look (m_to_spec h1) _ _ (of_decide_eq_true h3) k
          exact lv_lookup hx hb hd h2 rfl a1 (a2 H locs ls hR hl)
        · cases hc
      · cases h
    · cases h
end SBR
