/-! ===== calls, ends, the whole: what the small machine comes to, the real one does ===== -/
def m_A (ad : Nat → Nat) (sz : Nat) : Nat → Prop := fun q => (∃ i : Nat, i < 60 ∧ q = ad i) ∨ sz ≤ q
def m_ws (y : Nat) : List Cond := m_cw (m_M y) :: m_TB
def m_rm (d : Nat) : Room := { frames := d, cells := 0, slots := 0, locals := 35 * d }
def m_pre (dC : Nat → ClassId) (dI : Nat → Nat → Nat) (cI cR : ClassId) (ad : Nat → Nat) (L : Nat) (as : List Value) (D : m_D) (sz : Nat) : Array Value → State → Prop :=
  va_Pc (as.map (m_va ad)) (fun U => U.heap.size = sz ∧ va_P (dC, dI) m_cl (m_w ad cI cR D) U.heap ∧ va_K (dC, dI) m_cl (m_tys cI cR) U ∧ va_D (fun _ => True) (m_w ad cI cR D) ∧ va_X (ad 60) L (D 60) U U.heap ∧ ad 60 < sz ∧ ∀ i : Nat, i < 60 → ad i ≠ ad 60)
def m_post (dC : Nat → ClassId) (dI : Nat → Nat → Nat) (cI cR : ClassId) (ad : Nat → Nat) (Q : m_K) (xs : Nat → Int32) (A : Nat → Prop) : Array Value → State → Outcome → State → Prop :=
  fun _ st oc t => (∃ (r : Option Value) (D' : m_D), oc = .returned (r.map (m_va ad)) ∧ Q r D' ∧ va_P (dC, dI) m_cl (m_w ad cI cR D') t.heap ∧ D' 60 = xs) ∧ va_F A st t
theorem m_shp_len : m_shp.length = 60 := rfl
theorem m_w_lt {ad : Nat → Nat} {cI cR : ClassId} {D : m_D} {k : Nat} {q : Nat × va_E} (h : (m_w ad cI cR D)[k]? = some q) : k < 60 ∧ q.1 = ad k := by
  rw [m_w_get] at h
  cases hs : m_shp[k]? with
  | none => rw [hs] at h; cases h
  | some sh =>
    rw [hs] at h
    cases h
    exact ⟨by rw [← m_shp_len]; exact (List.getElem?_eq_some_iff.mp hs).1, rfl⟩
theorem m_w_ex {ad : Nat → Nat} {cI cR : ClassId} {D : m_D} {k : Nat} (h : k < 60) : ∃ q, (m_w ad cI cR D)[k]? = some q ∧ q.1 = ad k := by
  have hl : k < m_shp.length := by rw [m_shp_len]; exact h
  exact ⟨_, m_w_at (List.getElem?_eq_getElem hl), rfl⟩
theorem m_D_any {ad : Nat → Nat} {cI cR : ClassId} {D D' : m_D} {A : Nat → Prop} (h : va_D A (m_w ad cI cR D)) : va_D A (m_w ad cI cR D') := by
  refine ⟨fun i j p q hi hj hpq => ?_, fun k q hk => ?_⟩
  · obtain ⟨a1, a2⟩ := m_w_lt hi
    obtain ⟨b1, b2⟩ := m_w_lt hj
    obtain ⟨p', c1, c2⟩ := m_w_ex (ad := ad) (cI := cI) (cR := cR) (D := D) a1
    obtain ⟨q', d1, d2⟩ := m_w_ex (ad := ad) (cI := cI) (cR := cR) (D := D) b1
    exact h.1 i j p' q' c1 d1 (by rw [c2, d2, ← a2, ← b2]; exact hpq)
  · obtain ⟨a1, a2⟩ := m_w_lt hk
    obtain ⟨p', c1, c2⟩ := m_w_ex (ad := ad) (cI := cI) (cR := cR) (D := D) a1
    rw [a2, ← c2]
    exact h.2 k p' c1
theorem m_D_in {ad : Nat → Nat} {cI cR : ClassId} {D : m_D} {A : Nat → Prop} (h : va_D A (m_w ad cI cR D)) {i : Nat} (hi : i < 60) : A (ad i) := by
  obtain ⟨p', c1, c2⟩ := m_w_ex (ad := ad) (cI := cI) (cR := cR) (D := D) hi
  rw [← c2]
  exact h.2 i p' c1
theorem m_D_self {ad : Nat → Nat} {cI cR : ClassId} {D : m_D} {A : Nat → Prop} {sz : Nat} (h : va_D A (m_w ad cI cR D)) : va_D (m_A ad sz) (m_w ad cI cR D) :=
  ⟨h.1, fun k q hk => Or.inl ⟨k, (m_w_lt hk).1, (m_w_lt hk).2⟩⟩
theorem m_pop_spec {β : Type} : ∀ (n : Nat) (acc st : List Value) (f : List Value → List Value → Option β) (r : β), m_pop n acc st f = some r → ∃ as st', f (as ++ acc) st' = some r ∧ st = as.reverse ++ st' ∧ as.length = n
  | 0, acc, st, f, r, h => ⟨[], st, h, rfl, rfl⟩
  | n + 1, acc, [], f, r, h => by cases h
  | n + 1, acc, v :: st, f, r, h => by
    obtain ⟨as, st', a, b, c⟩ := m_pop_spec n (v :: acc) st f r h
    exact ⟨as ++ [v], st', by simpa using a, by simp [b], by simp [c]⟩
theorem m_cats_eq (ad : Nat → Nat) : ∀ st : List Value, ((st.map (m_va ad)).map fun v => v.category).sum = m_cats st
  | [] => rfl
  | v :: t => by
    have h := m_cats_eq ad t
    simp only [List.map_cons, List.sum_cons, h, m_va_cat]
    cases v <;> simp [m_cats, Value.category] <;> omega
theorem m_ent_spec {β : Type} (ad : Nat → Nat) : ∀ (n k : Nat) (as : List Value) (f : m_Lc → Option β) (r : β), m_ent n as f = some r → ∃ lc, f lc = some r ∧ lc.length = n ∧ (lg_sl (as.map (m_va ad))).length ≤ n ∧ ∀ (i : Nat) (v : Value), lc[i]? = some (some v) → (k + i, m_va ad v) ∈ lv_args k (as.map (m_va ad))
  | 0, k, [], f, r, h => ⟨[], h, rfl, by simp [lg_sl], fun i v hv => by simp at hv⟩
  | 0, k, _ :: _, f, r, h => by cases h
  | n + 1, k, [], f, r, h => by
    obtain ⟨lc, a, b, c, g⟩ := m_ent_spec ad n (k + 1) [] _ r h
    refine ⟨none :: lc, a, by simp [b], by simp [lg_sl], fun i v hv => ?_⟩
    cases i with
    | zero => simp at hv
    | succ i => exact absurd (g i v (by simpa using hv)) (by simp [lv_args])
  | 1, k, .long x :: vs, f, r, h => by cases h
  | n + 2, k, .long x :: vs, f, r, h => by
    obtain ⟨lc, a, b, c, g⟩ := m_ent_spec ad n (k + 2) vs _ r h
    refine ⟨some (.long x) :: none :: lc, a, by simp [b], ?_, fun i v hv => ?_⟩
    · show (lg_sl (Value.long x :: vs.map (m_va ad))).length ≤ n + 2
      simp only [lg_sl, List.flatMap_cons, Value.category, if_true, List.length_append, List.length_cons, List.length_nil] at c ⊢
      omega
    · show (k + i, m_va ad v) ∈ lv_args k (Value.long x :: vs.map (m_va ad))
      match i, hv with
      | 0, hv =>
        have : v = .long x := by simpa using hv.symm
        subst this
        simp [lv_args, m_va]
      | 1, hv => simp at hv
      | i + 2, hv =>
        have := g i v (by simpa using hv)
        simp only [lv_args, Value.category, if_true]
        rw [show k + (i + 2) = k + 2 + i by omega]
        exact List.mem_cons_of_mem _ this
  | n + 1, k, v0 :: vs, f, r, h => by
    have key : v0.category = 1 → m_ent n vs (fun t => f (some v0 :: t)) = some r → ∃ lc, f lc = some r ∧ lc.length = n + 1 ∧ (lg_sl ((v0 :: vs).map (m_va ad))).length ≤ n + 1 ∧ ∀ (i : Nat) (v : Value), lc[i]? = some (some v) → (k + i, m_va ad v) ∈ lv_args k ((v0 :: vs).map (m_va ad)) := by
      intro hc h
      obtain ⟨lc, a, b, c, g⟩ := m_ent_spec ad n (k + 1) vs _ r h
      have hc' : ¬ (m_va ad v0).category = 2 := by rw [m_va_cat]; omega
      refine ⟨some v0 :: lc, a, by simp [b], ?_, fun i v hv => ?_⟩
      · simp only [List.map_cons, lg_sl, List.flatMap_cons, hc', if_false, List.length_append, List.length_cons, List.length_nil] at c ⊢
        omega
      · simp only [List.map_cons, lv_args, hc', if_false]
        cases i with
        | zero =>
          have : v = v0 := by simpa using hv.symm
          subst this
          simp
        | succ i =>
          have := g i v (by simpa using hv)
          rw [show k + (i + 1) = k + 1 + i by omega]
          exact List.mem_cons_of_mem _ this
    cases v0 with
    | int x => exact key rfl h
    | float x => exact key rfl h
    | null => exact key rfl h
    | ref x => exact key rfl h
    | retAddr x => exact key rfl h
    | double x => cases h
    | long x =>
      cases n with
      | zero => cases h
      | succ n =>
        obtain ⟨lc, a, b, c, g⟩ := m_ent_spec ad n (k + 2) vs _ r h
        refine ⟨some (.long x) :: none :: lc, a, by simp [b], ?_, fun i v hv => ?_⟩
        · show (lg_sl (Value.long x :: vs.map (m_va ad))).length ≤ n + 2
          simp only [lg_sl, List.flatMap_cons, Value.category, if_true, List.length_append, List.length_cons, List.length_nil] at c ⊢
          omega
        · show (k + i, m_va ad v) ∈ lv_args k (Value.long x :: vs.map (m_va ad))
          match i, hv with
          | 0, hv =>
            have : v = .long x := by simpa using hv.symm
            subst this
            simp [lv_args, m_va]
          | 1, hv => simp at hv
          | i + 2, hv =>
            have := g i v (by simpa using hv)
            simp only [lv_args, Value.category, if_true]
            rw [show k + (i + 2) = k + 2 + i by omega]
            exact List.mem_cons_of_mem _ this
theorem m_goodT {w : Cond} (h : w ∈ m_TB) : w ∈ m_TB ∧ ((w.onTables && w.keeps) = true ∨ ∃ ty, w = .arrayClass ty) := ⟨h, good_of_word (List.mem_filter.mp h).2⟩
theorem m_ms_len : m_ms.length = 170 := by decide +kernel
theorem m_M_in {y : Nat} (h : y < 169) : m_M y ∈ m_ms.dropLast := by
  have e : m_ms.dropLast[y]? = some (m_M y) := by
    rw [List.getElem?_dropLast, if_pos (by rw [m_ms_len]; omega)]
    have h2 : y < m_ms.length := by rw [m_ms_len]; omega
    show m_ms[y]? = some (m_ms.getD y M_L_law)
    rw [List.getD_eq_getElem?_getD, List.getElem?_eq_getElem h2]
    rfl
  exact List.mem_of_getElem? e
theorem m_ckR_spec {o : Nat} {y : MethodName} {mx : Nat} {rt : Option FieldType} {rk np : Nat} (h : m_ckR o y mx rt rk np = true) : mx ≤ 16 ∧ plainFor y = true ∧ y.cls = m_cn o ∧ o < 10 ∧ y.cls ≠ "java/lang/invoke/MethodHandle" ∧ y.cls ≠ "java/lang/invoke/VarHandle" ∧ (parseMethodDescriptor y.desc).map (fun d => d.parameters.length) = some np ∧ ((rk = 0 ∧ rt = none) ∨ (rk = 1 ∧ rt = some .int) ∨ (rk = 2 ∧ rt = some .boolean) ∨ (3 ≤ rk ∧ rt = some .long)) := by
  unfold m_ckR at h
  obtain ⟨h, h8⟩ := m_and h
  obtain ⟨h, h7⟩ := m_and h
  obtain ⟨h, h6⟩ := m_and h
  obtain ⟨h, h5⟩ := m_and h
  obtain ⟨h, h4⟩ := m_and h
  obtain ⟨h, h3⟩ := m_and h
  obtain ⟨h1, h2⟩ := m_and h
  refine ⟨of_decide_eq_true h1, h2, of_decide_eq_true h3, of_decide_eq_true h4, of_decide_eq_true h5, of_decide_eq_true h6, of_decide_eq_true h7, ?_⟩
  match rk, h8 with
  | 0, h8 => exact Or.inl ⟨rfl, of_decide_eq_true h8⟩
  | 1, h8 => exact Or.inr (Or.inl ⟨rfl, of_decide_eq_true h8⟩)
  | 2, h8 => exact Or.inr (Or.inr (Or.inl ⟨rfl, of_decide_eq_true h8⟩))
  | z + 3, h8 => exact Or.inr (Or.inr (Or.inr ⟨by omega, of_decide_eq_true h8⟩))
theorem m_M_spec {y : Nat} (h : y < 169) : (m_M y).2.2.2.2.2.2.2.2.all (m_ck (m_M y).2.2.1 (m_M y).1) = true ∧ m_ckR (m_M y).1 (m_M y).2.1 (m_M y).2.2.2.1 (m_M y).2.2.2.2.1 (m_M y).2.2.2.2.2.1 (m_M y).2.2.2.2.2.2.1 = true :=
  m_and (ck_all (m_M y) (List.dropLast_subset _ (m_M_in h)))
