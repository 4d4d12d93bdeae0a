/-! ===== the real machine does what the small one does ===== -/
def m_va (ad : Nat → Nat) : Value → Value
  | .ref i => .ref (ad i)
  | v => v
theorem m_va_cat (ad : Nat → Nat) (v : Value) : (m_va ad v).category = v.category := by cases v <;> rfl
def m_ele (ad : Nat → Nat) (cI cR : ClassId) (D : m_D) (i : Nat) : m_Sh → va_E
  | .inl n => .inl (cI, n, .inl (D i))
  | .inr (.inl js) => .inl (cR, js.length, .inr (.inr (.inr (.inr (fun k => (js[k]?).map ad)))))
  | .inr (.inr (ci, fs)) => .inr (ci, fs.mapIdx (fun k o => match o with
    | some q => Value.ref (ad q)
    | none => Value.int (D i k)))
def m_w (ad : Nat → Nat) (cI cR : ClassId) (D : m_D) : va_W := m_shp.mapIdx (fun i sh => (ad i, m_ele ad cI cR D i sh))
theorem m_w_get (ad : Nat → Nat) (cI cR : ClassId) (D : m_D) (i : Nat) : (m_w ad cI cR D)[i]? = (m_shp[i]?).map (fun sh => (ad i, m_ele ad cI cR D i sh)) := by
  simp [m_w]
theorem m_w_at {ad : Nat → Nat} {cI cR : ClassId} {D : m_D} {i : Nat} {sh : m_Sh} (h : m_shp[i]? = some sh) : (m_w ad cI cR D)[i]? = some (ad i, m_ele ad cI cR D i sh) := by
  rw [m_w_get, h]; rfl
theorem m_ele_c {ad : Nat → Nat} {cI cR : ClassId} {D D' : m_D} {i : Nat} (h : D i = D' i) (sh : m_Sh) : m_ele ad cI cR D i sh = m_ele ad cI cR D' i sh := by
  rcases sh with n | js | ⟨ci, fs⟩
  · simp only [m_ele, h]
  · rfl
  · simp only [m_ele, h]
/-- one cell becomes another: the world of the new contents -/
theorem m_w_set {ad : Nat → Nat} {cI cR : ClassId} {D D' : m_D} {i : Nat} {sh : m_Sh} {x : va_E} (h : m_shp[i]? = some sh) (hx : x = m_ele ad cI cR D' i sh) (ho : ∀ a, a ≠ i → D' a = D a) : (m_w ad cI cR D).set i (ad i, x) = m_w ad cI cR D' := by
  apply List.ext_getElem?
  intro k
  by_cases hk : k = i
  · subst hk
    have hl : k < (m_w ad cI cR D).length := (List.getElem?_eq_some_iff.mp (m_w_at (ad := ad) (cI := cI) (cR := cR) (D := D) h)).1
    rw [List.getElem?_set_self hl, m_w_at h, hx]
  · rw [List.getElem?_set_ne (Ne.symm hk), m_w_get, m_w_get]
    cases m_shp[k]? with
    | none => rfl
    | some s => simp only [Option.map_some]; rw [m_ele_c (ho k hk)]
theorem m_up_ne {D : m_D} {i j a : Nat} {v : Int32} (h : a ≠ i) : m_up D i j v a = D a := if_neg h
theorem m_up_at {D : m_D} {i j : Nat} {v : Int32} : m_up D i j v i = upd (D i) j v := if_pos rfl
theorem m_cp_ne {D : m_D} {a0 a1 sp dp n a : Nat} (h : a ≠ a1) : m_cp D a0 a1 sp dp n a = D a := if_neg h
theorem m_cp_at {D : m_D} {a0 a1 sp dp n : Nat} : m_cp D a0 a1 sp dp n a1 = va_cpy (D a0) (D a1) sp dp n := if_pos rfl
theorem m_w_arr {ad : Nat → Nat} {cI cR : ClassId} {D : m_D} {i n j : Nat} {x : Int32} (h : m_shp[i]? = some (.inl n)) : (m_w ad cI cR D).set i (ad i, .inl (cI, n, .inl (upd (D i) j x))) = m_w ad cI cR (m_up D i j x) :=
  m_w_set h (by simp only [m_ele, m_up_at]) (fun _ ha => m_up_ne ha)
theorem m_w_cpy {ad : Nat → Nat} {cI cR : ClassId} {D : m_D} {a0 i n sp dp z : Nat} (h : m_shp[i]? = some (.inl n)) : (m_w ad cI cR D).set i (ad i, .inl (cI, n, .inl (va_cpy (D a0) (D i) sp dp z))) = m_w ad cI cR (m_cp D a0 i sp dp z) :=
  m_w_set h (by simp only [m_ele, m_cp_at]) (fun _ ha => m_cp_ne ha)
theorem m_w_fld {ad : Nat → Nat} {cI cR : ClassId} {D : m_D} {i ci k : Nat} {fs : List (Option Nat)} {x : Int32} (h : m_shp[i]? = some (.inr (.inr (ci, fs)))) (hk : fs[k]? = some none) : (m_w ad cI cR D).set i (ad i, .inr (ci, (fs.mapIdx (fun k o => match o with
    | some q => Value.ref (ad q)
    | none => Value.int (D i k))).set k (.int x))) = m_w ad cI cR (m_up D i k x) := by
  refine m_w_set h ?_ (fun _ ha => m_up_ne ha)
  simp only [m_ele, m_up_at]
  congr 2
  apply List.ext_getElem?
  intro a
  have hl : k < fs.length := (List.getElem?_eq_some_iff.mp hk).1
  by_cases ha : a = k
  · subst ha
    rw [List.getElem?_set_self (by simpa using hl), List.getElem?_mapIdx, hk]
    simp [upd]
  · rw [List.getElem?_set_ne (Ne.symm ha), List.getElem?_mapIdx, List.getElem?_mapIdx]
    cases fs[a]? with
    | none => rfl
    | some o => cases o <;> simp [upd, ha]
def m_LR (ad : Nat → Nat) (ls : Array Slot) (nL : Nat) (lc : m_Lc) : Prop := ls.size = nL ∧ lv_wf ls ∧ lc.length = nL ∧ ∀ (i : Nat) (v : Value), lc[i]? = some (some v) → ls[i]? = some (.val (m_va ad v))
def m_pl (ad : Nat → Nat) : Nat → m_Lc → List (Nat × Value)
  | _, [] => []
  | k, none :: t => m_pl ad (k + 1) t
  | k, some v :: t => (k, m_va ad v) :: m_pl ad (k + 1) t
theorem m_pl_in (ad : Nat → Nat) : ∀ (lc : m_Lc) (k i : Nat) (v : Value), lc[i]? = some (some v) → (k + i, m_va ad v) ∈ m_pl ad k lc
  | [], _, _, _, h => by simp at h
  | none :: t, k, 0, v, h => by simp at h
  | some u :: t, k, 0, v, h => by
    have : u = v := by simpa using h
    subst this
    exact List.mem_cons_self
  | none :: t, k, i + 1, v, h => by
    have := m_pl_in ad t (k + 1) i v (by simpa using h)
    rw [show k + (i + 1) = k + 1 + i by omega]
    exact this
  | some u :: t, k, i + 1, v, h => by
    have := m_pl_in ad t (k + 1) i v (by simpa using h)
    rw [show k + (i + 1) = k + 1 + i by omega]
    exact List.mem_cons_of_mem _ this
theorem m_pl_out (ad : Nat → Nat) : ∀ (lc : m_Lc) (k : Nat) (q : Nat × Value), q ∈ m_pl ad k lc → ∃ i v, q = (k + i, m_va ad v) ∧ lc[i]? = some (some v)
  | [], _, _, h => by cases h
  | none :: t, k, q, h => by
    obtain ⟨i, v, e, hv⟩ := m_pl_out ad t (k + 1) q h
    exact ⟨i + 1, v, by rw [e]; congr 1; omega, by simpa using hv⟩
  | some u :: t, k, q, h => by
    rcases List.mem_cons.mp h with e | h
    · exact ⟨0, u, e, by simp⟩
    · obtain ⟨i, v, e, hv⟩ := m_pl_out ad t (k + 1) q h
      exact ⟨i + 1, v, by rw [e]; congr 1; omega, by simpa using hv⟩
theorem m_LR.has {ad : Nat → Nat} {ls : Array Slot} {nL : Nat} {lc : m_Lc} (h : m_LR ad ls nL lc) : lv_has ls nL (m_pl ad 0 lc) := by
  refine ⟨h.1, h.2.1, fun q hq => ?_⟩
  obtain ⟨i, v, e, hv⟩ := m_pl_out ad lc 0 q hq
  rw [e]
  show ls[0 + i]? = _
  rw [Nat.zero_add]
  exact h.2.2.2 i v hv
theorem m_get_spec {β : Type} : ∀ (lc : m_Lc) (j : Nat) (f : Value → Option β) (r : β), m_get lc j f = some r → ∃ v, lc[j]? = some (some v) ∧ f v = some r
  | [], _, _, _, h => by cases h
  | none :: _, 0, _, _, h => by cases h
  | some v :: _, 0, f, r, h => ⟨v, rfl, h⟩
  | none :: t, n + 1, f, r, h => by
    obtain ⟨v, a, b⟩ := m_get_spec t n f r h
    exact ⟨v, by simpa using a, b⟩
  | some _ :: t, n + 1, f, r, h => by
    obtain ⟨v, a, b⟩ := m_get_spec t n f r h
    exact ⟨v, by simpa using a, b⟩
/-- what a store leaves -/
def m_left (lc lc' : m_Lc) (j : Nat) (v : Value) : Prop := lc'.length = lc.length ∧ j < lc.length ∧ ∀ (i : Nat) (u : Value), lc'[i]? = some (some u) → (i = j ∧ u = v) ∨ (i ≠ j ∧ lc[i]? = some (some u) ∧ ¬ (i + 1 = j ∧ u.category = 2))
theorem m_left_s {lc lc' : m_Lc} {j : Nat} {v : Value} {o : Option Value} (h : m_left lc lc' j v) (hj : ∀ u, o = some u → j = 0 → ¬ u.category = 2) : m_left (o :: lc) (o :: lc') (j + 1) v := by
  refine ⟨by simp [h.1], by simp [h.2.1], fun i u hu => ?_⟩
  cases i with
  | zero =>
    have e : o = some u := by simpa using hu
    exact Or.inr ⟨by omega, by simpa using e, fun q => hj u e (by omega) q.2⟩
  | succ i =>
    rcases h.2.2 i u (by simpa using hu) with ⟨a, b⟩ | ⟨a, b, c⟩
    · exact Or.inl ⟨by omega, b⟩
    · exact Or.inr ⟨by omega, by simpa using b, fun q => c ⟨by omega, q.2⟩⟩
theorem m_left_n {lc lc' : m_Lc} {j : Nat} {v : Value} {o : Option Value} (h : m_left lc lc' j v) : m_left (o :: lc) (none :: lc') (j + 1) v := by
  refine ⟨by simp [h.1], by simp [h.2.1], fun i u hu => ?_⟩
  cases i with
  | zero => simp at hu
  | succ i =>
    rcases h.2.2 i u (by simpa using hu) with ⟨a, b⟩ | ⟨a, b, c⟩
    · exact Or.inl ⟨by omega, b⟩
    · exact Or.inr ⟨by omega, by simpa using b, fun q => c ⟨by omega, q.2⟩⟩
theorem m_left_0 {t : m_Lc} {o : Option Value} {v : Value} : m_left (o :: t) (some v :: t) 0 v := by
  refine ⟨rfl, by simp, fun i u hu => ?_⟩
  cases i with
  | zero => exact Or.inl ⟨rfl, by simpa using hu.symm⟩
  | succ i => exact Or.inr ⟨by omega, by simpa using hu, by omega⟩
theorem m_set_spec {β : Type} {v : Value} : ∀ (lc : m_Lc) (j : Nat) (f : m_Lc → Option β) (r : β), m_set lc j v f = some r → ∃ lc', f lc' = some r ∧ m_left lc lc' j v
  | [], _, _, _, h => by cases h
  | o :: t, 0, f, r, h => by
    have h : f (some v :: t) = some r := by cases o <;> exact h
    exact ⟨_, h, m_left_0⟩
  | o :: t, n + 1, f, r, h => by
    have key : (∃ u, o = some u ∧ u.category = 2 ∧ n = 0 ∧ m_set t 0 v (fun t' => f (none :: t')) = some r) ∨ ((∀ u, o = some u → n = 0 → ¬ u.category = 2) ∧ m_set t n v (fun t' => f (o :: t')) = some r) := by
      cases n with
      | zero =>
        cases o with
        | none => exact Or.inr ⟨fun u q => by simp at q, h⟩
        | some u =>
          cases u with
          | long x => exact Or.inl ⟨_, rfl, rfl, rfl, h⟩
          | double x => exact Or.inl ⟨_, rfl, rfl, rfl, h⟩
          | int x => exact Or.inr ⟨fun u q => by cases q; simp [Value.category], h⟩
          | float x => exact Or.inr ⟨fun u q => by cases q; simp [Value.category], h⟩
          | null => exact Or.inr ⟨fun u q => by cases q; simp [Value.category], h⟩
          | ref x => exact Or.inr ⟨fun u q => by cases q; simp [Value.category], h⟩
          | retAddr x => exact Or.inr ⟨fun u q => by cases q; simp [Value.category], h⟩
      | succ n =>
        refine Or.inr ⟨fun u _ q => by omega, ?_⟩
        cases o with
        | none => exact h
        | some u => cases u <;> exact h
    rcases key with ⟨u, e1, e2, e3, h2⟩ | ⟨g, h2⟩
    · subst e3
      obtain ⟨lc', a, b⟩ := m_set_spec t 0 _ r h2
      exact ⟨_, a, m_left_n b⟩
    · obtain ⟨lc', a, b⟩ := m_set_spec t n _ r h2
      exact ⟨_, a, m_left_s b g⟩
def m_left2 (lc lc' : m_Lc) (j : Nat) (v : Value) : Prop := lc'.length = lc.length ∧ j + 1 < lc.length ∧ ∀ (i : Nat) (u : Value), lc'[i]? = some (some u) → (i = j ∧ u = v) ∨ (i ≠ j ∧ i ≠ j + 1 ∧ lc[i]? = some (some u) ∧ ¬ (i + 1 = j ∧ u.category = 2))
theorem m_left2_s {lc lc' : m_Lc} {j : Nat} {v : Value} {o : Option Value} (h : m_left2 lc lc' j v) (hj : ∀ u, o = some u → j = 0 → ¬ u.category = 2) : m_left2 (o :: lc) (o :: lc') (j + 1) v := by
  refine ⟨by simp [h.1], by simp [h.2.1], fun i u hu => ?_⟩
  cases i with
  | zero =>
    have e : o = some u := by simpa using hu
    exact Or.inr ⟨by omega, by omega, by simpa using e, fun q => hj u e (by omega) q.2⟩
  | succ i =>
    rcases h.2.2 i u (by simpa using hu) with ⟨a, b⟩ | ⟨a, a', b, c⟩
    · exact Or.inl ⟨by omega, b⟩
    · exact Or.inr ⟨by omega, by omega, by simpa using b, fun q => c ⟨by omega, q.2⟩⟩
theorem m_left2_n {lc lc' : m_Lc} {j : Nat} {v : Value} {o : Option Value} (h : m_left2 lc lc' j v) : m_left2 (o :: lc) (none :: lc') (j + 1) v := by
  refine ⟨by simp [h.1], by simp [h.2.1], fun i u hu => ?_⟩
  cases i with
  | zero => simp at hu
  | succ i =>
    rcases h.2.2 i u (by simpa using hu) with ⟨a, b⟩ | ⟨a, a', b, c⟩
    · exact Or.inl ⟨by omega, b⟩
    · exact Or.inr ⟨by omega, by omega, by simpa using b, fun q => c ⟨by omega, q.2⟩⟩
theorem m_left2_0 {t : m_Lc} {o o' : Option Value} {v : Value} : m_left2 (o :: o' :: t) (some v :: none :: t) 0 v := by
  refine ⟨rfl, by simp, fun i u hu => ?_⟩
  match i, hu with
  | 0, hu => exact Or.inl ⟨rfl, by simpa using hu.symm⟩
  | 1, hu => simp at hu
  | i + 2, hu => exact Or.inr ⟨by omega, by omega, by simpa using hu, by omega⟩
theorem m_set2_spec {β : Type} {v : Value} : ∀ (lc : m_Lc) (j : Nat) (f : m_Lc → Option β) (r : β), m_set2 lc j v f = some r → ∃ lc', f lc' = some r ∧ m_left2 lc lc' j v
  | [], _, _, _, h => by cases h
  | [_], _, _, _, h => by cases h
  | o :: o' :: t, 0, f, r, h => by
    have h : f (some v :: none :: t) = some r := by cases o <;> exact h
    exact ⟨_, h, m_left2_0⟩
  | o :: o' :: t, n + 1, f, r, h => by
    have key : (∃ u, o = some u ∧ u.category = 2 ∧ n = 0 ∧ m_set2 (o' :: t) 0 v (fun t' => f (none :: t')) = some r) ∨ ((∀ u, o = some u → n = 0 → ¬ u.category = 2) ∧ m_set2 (o' :: t) n v (fun t' => f (o :: t')) = some r) := by
      cases n with
      | zero =>
        cases o with
        | none => exact Or.inr ⟨fun u q => by simp at q, h⟩
        | some u =>
          cases u with
          | long x => exact Or.inl ⟨_, rfl, rfl, rfl, h⟩
          | double x => exact Or.inl ⟨_, rfl, rfl, rfl, h⟩
          | int x => exact Or.inr ⟨fun u q => by cases q; simp [Value.category], h⟩
          | float x => exact Or.inr ⟨fun u q => by cases q; simp [Value.category], h⟩
          | null => exact Or.inr ⟨fun u q => by cases q; simp [Value.category], h⟩
          | ref x => exact Or.inr ⟨fun u q => by cases q; simp [Value.category], h⟩
          | retAddr x => exact Or.inr ⟨fun u q => by cases q; simp [Value.category], h⟩
      | succ n =>
        refine Or.inr ⟨fun u _ q => by omega, ?_⟩
        cases o with
        | none => exact h
        | some u => cases u <;> exact h
    rcases key with ⟨u, e1, e2, e3, h2⟩ | ⟨g, h2⟩
    · subst e3
      obtain ⟨lc', a, b⟩ := m_set2_spec (o' :: t) 0 _ r h2
      exact ⟨_, a, m_left2_n b⟩
    · obtain ⟨lc', a, b⟩ := m_set2_spec (o' :: t) n _ r h2
      exact ⟨_, a, m_left2_s b g⟩
theorem m_LR.st {ad : Nat → Nat} {ls ls' : Array Slot} {nL j : Nat} {lc lc' : m_Lc} {v : Value} (h : m_LR ad ls nL lc) (hl : m_left lc lc' j v) (h' : lv_has ls' nL ((j, m_va ad v) :: (m_pl ad 0 lc).filter (fun q => !(q.1 == j) && !(q.1 + 1 == j && q.2.category == 2)))) : m_LR ad ls' nL lc' := by
  refine ⟨h'.1, h'.2.1, by rw [hl.1]; exact h.2.2.1, fun i u hu => ?_⟩
  rcases hl.2.2 i u hu with ⟨rfl, rfl⟩ | ⟨a, b, c⟩
  · exact h'.2.2 (i, m_va ad u) List.mem_cons_self
  · refine h'.2.2 (i, m_va ad u) (List.mem_cons_of_mem _ (List.mem_filter.mpr ⟨?_, ?_⟩))
    · have := m_pl_in ad lc 0 i u b
      rwa [Nat.zero_add] at this
    · simp only [Bool.and_eq_true, Bool.not_eq_true', beq_eq_false_iff_ne, ne_eq, Bool.and_eq_false_iff, m_va_cat]
      refine ⟨a, ?_⟩
      by_cases q : i + 1 = j
      · exact Or.inr (fun z => c ⟨q, z⟩)
      · exact Or.inl q
theorem m_LR.st2 {ad : Nat → Nat} {ls ls' : Array Slot} {nL j : Nat} {lc lc' : m_Lc} {v : Value} (h : m_LR ad ls nL lc) (hl : m_left2 lc lc' j v) (h' : lv_has ls' nL ((j, m_va ad v) :: (m_pl ad 0 lc).filter (fun q => !(q.1 == j) && (!(q.1 == j + 1) && !(q.1 + 1 == j && q.2.category == 2))))) : m_LR ad ls' nL lc' := by
  refine ⟨h'.1, h'.2.1, by rw [hl.1]; exact h.2.2.1, fun i u hu => ?_⟩
  rcases hl.2.2 i u hu with ⟨rfl, rfl⟩ | ⟨a, a', b, c⟩
  · exact h'.2.2 (i, m_va ad u) List.mem_cons_self
  · refine h'.2.2 (i, m_va ad u) (List.mem_cons_of_mem _ (List.mem_filter.mpr ⟨?_, ?_⟩))
    · have := m_pl_in ad lc 0 i u b
      rwa [Nat.zero_add] at this
    · simp only [Bool.and_eq_true, Bool.not_eq_true', beq_eq_false_iff_ne, ne_eq, Bool.and_eq_false_iff, m_va_cat]
      refine ⟨a, a', ?_⟩
      by_cases q : i + 1 = j
      · exact Or.inr (fun z => c ⟨q, z⟩)
      · exact Or.inl q
theorem m_find_spec {pc : Nat} {e : m_E} : ∀ (tb : List m_E), m_find tb pc = some e → e ∈ tb ∧ e.1 = pc
  | [], h => by cases h
  | a :: t, h => by
    have h : (match Nat.beq a.1 pc with
      | true => some a
      | false => m_find t pc) = some e := h
    cases hb : Nat.beq a.1 pc with
    | true =>
      rw [hb] at h
      cases h
      exact ⟨List.mem_cons_self, Nat.eq_of_beq_eq_true hb⟩
    | false =>
      rw [hb] at h
      obtain ⟨x, y⟩ := m_find_spec t h
      exact ⟨List.mem_cons_of_mem _ x, y⟩
theorem m_is_spec {b : ByteArray} {pc n nx : Nat} {i : Instr} (h : m_is b pc i n nx = true) : decode b pc = .ok (i, n) ∧ nx = pc + n := by
  have h : (decide (decode b pc = .ok (i, n)) && decide (nx = pc + n)) = true := h
  simpa only [Bool.and_eq_true, decide_eq_true_eq] using h
theorem m_to_spec {pc j : Nat} {n : Int} (h : m_to pc n j = true) : (pc : Int) + n = (j : Int) := of_decide_eq_true h
theorem m_and {a b : Bool} (h : (a && b) = true) : a = true ∧ b = true := by simpa using h
theorem m_fin {j : Nat} (h : j < 4) : ((m_fin4 j : Fin 4) : Nat) = j := Nat.mod_eq_of_lt h
theorem m_ld_spec {b : ByteArray} {pc j k nx : Nat} {f : Fin 4 → Instr} {g : Nat → Instr} (h : m_ld b pc j k nx f g = true) : (decode b pc = .ok (f (m_fin4 j), 1) ∧ nx = pc + 1 ∧ j < 4) ∨ (decode b pc = .ok (g j, 2) ∧ nx = pc + 2) := by
  match k, h with
  | 0, h =>
    obtain ⟨a, b⟩ := m_and h
    exact Or.inl ⟨(m_is_spec a).1, (m_is_spec a).2, of_decide_eq_true b⟩
  | k + 1, h => exact Or.inr (m_is_spec h)
theorem m_fld_spec {β : Type} {a ci k : Nat} {f : Option Nat → Option β} {r : β} (h : m_fld a ci k f = some r) : ∃ fs o, m_shp[a]? = some (.inr (.inr (ci, fs))) ∧ fs[k]? = some o ∧ f o = some r := by
  unfold m_fld at h
  split at h
  · rename_i ci' fs hs
    split at h
    · rename_i hb
      split at h
      · rename_i o ho
        rw [Nat.eq_of_beq_eq_true hb] at hs
        exact ⟨fs, o, hs, ho, h⟩
      · cases h
    · cases h
  · cases h
def m_Rl (s : State) (dC : Nat → ClassId) (dI : Nat → Nat → Nat) (cI cR : ClassId) (ad : Nat → Nat) (A : Nat → Prop) (xs : Nat → Int32) (D : m_D) (H : Heap) (locs : List Loc) : Prop :=
  va_P (dC, dI) m_cl (m_w ad cI cR D) H ∧ va_D A (m_w ad cI cR D) ∧ va_S A s.heap H locs ∧ D 60 = xs
def m_X (p : Program) (l : Launch) (e : Env) (R : Room) (s : State) (m : MethodId) (args : Array Value) (below : List Frame) (meth : Method) (c : Code) (cells slots : Nat) (Q : State → Prop) (dC : Nat → ClassId) (dI : Nat → Nat → Nat) (cI cR : ClassId) (ad : Nat → Nat) (A : Nat → Prop) (xs : Nat → Int32) (nL : Nat) (σ : m_St) : Prop :=
  ∀ (H : Heap) (locs : List Loc) (ls : Array Slot), m_Rl s dC dI cI cR ad A xs σ.2.2.2 H locs → m_LR ad ls nL σ.2.1 → W p l e R s m args below meth c H locs cells slots Q (F0 m σ.1 ls (σ.2.2.1.map (m_va ad)))
abbrev m_tys (cI cR : ClassId) : List (ClassId × FieldType) := [(cI, .int), (cR, .object "RainRead$Sheet")]
/-- what stands fast in a method: its machine, bytes, words -/
def m_Cx (p : Program) (s : State) (m : MethodId) (args : Array Value) (c : Code) (dC : Nat → ClassId) (dI : Nat → Nat → Nat) (cI cR : ClassId) (b : ByteArray) (o nL : Nat) : Prop :=
  p.tables.exec = Jvm.exec ∧ c.code = b ∧ c.maxLocals = nL ∧ s.vm.findClass (m_cn o) = some m.cls ∧ (∀ w ∈ m_TB, w.before args s = true) ∧ va_K (dC, dI) m_cl (m_tys cI cR) s
