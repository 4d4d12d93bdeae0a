/-! ===== what the small machine comes to: the least that its steps allow ===== -/
def m_sw (tb : List m_E) (σ : m_St) : Option (Int32 × Nat × List (Int32 × Nat) × (Nat → m_St)) := match σ with
  | (pc, lc, st, D) => match m_find tb pc with
    | some (_, _, op, j, k, _, _, _) => match op with
      | 60 => match st with
        | .int x :: st' => some (x, j, m_sws.getD k [], fun t => (t, lc, st', D))
        | _ => none
      | 61 => match st with
        | .int x :: st' => some (x, j, m_sws.getD k [], fun t => (t, lc, st', D))
        | _ => none
      | _ => none
    | none => none
def m_step (L dp : Nat) (ca : Nat → List Value → m_D → m_K → Prop) (Q : m_K) (tb : List m_E) (rk : Nat) (X : m_St → Prop) (σ : m_St) : Prop :=
  (∃ τ, m_go tb σ = some τ ∧ X τ) ∨
  (∃ q τ ρ, m_br tb σ = some (q, τ, ρ) ∧ (q → X τ) ∧ (¬ q → X ρ)) ∨
  (∃ q τ, m_sd L dp tb σ = some (q, τ) ∧ q ∧ X τ) ∨
  (∃ i js f, m_al tb σ = some (i, js, f) ∧ vp_in i js.length ∧ ∀ q, js[i.toNatClampNeg]? = some q → X (f q)) ∨
  (∃ y as D f, m_ca tb σ = some (y, as, D, f) ∧ ca y as D (fun r D' => X (f r D'))) ∨
  (∃ q r D, m_rt tb rk σ = some (q, r, D) ∧ q ∧ Q r D) ∨
  (∃ x d cs f, m_sw tb σ = some (x, d, cs, f) ∧ m_cs (fun t => X (f t)) x d cs)
def m_WP (L dp : Nat) (ca : Nat → List Value → m_D → m_K → Prop) (Q : m_K) (tb : List m_E) (rk : Nat) (σ : m_St) : Prop :=
  ∀ X : m_St → Prop, (∀ τ, m_step L dp ca Q tb rk X τ → X τ) → X σ
/-- the places with which a method begins -/
def m_ent {β : Type} : Nat → List Value → (m_Lc → Option β) → Option β
  | 0, [], f => f []
  | 0, _ :: _, _ => none
  | n + 1, [], f => m_ent n [] (fun t => f (none :: t))
  | _ + 1, .double _ :: _, _ => none
  | n + 2, .long x :: vs, f => m_ent n vs (fun t => f (some (.long x) :: none :: t))
  | 1, .long _ :: _, _ => none
  | n + 1, v :: vs, f => m_ent n vs (fun t => f (some v :: t))
def m_call (L : Nat) : Nat → Nat → List Value → m_D → m_K → Prop
  | 0, _, _, _, _ => False
  | d + 1, y, as, D, Q => ∃ lc, m_ent (m_M y).2.2.2.1 as (fun lc => some lc) = some lc ∧ m_WP L d (m_call L d) Q (m_M y).2.2.2.2.2.2.2.2 (m_M y).2.2.2.2.2.1 (0, lc, [], D)
theorem m_cs_mono {X Y : Nat → Prop} (h : ∀ t, X t → Y t) {x : Int32} {d : Nat} : ∀ cs : List (Int32 × Nat), m_cs X x d cs → m_cs Y x d cs
  | [], a => h _ a
  | (_, _) :: r, a => ⟨fun q => h _ (a.1 q), fun q => m_cs_mono h r (a.2 q)⟩
theorem m_step_mono {L dp : Nat} {ca : Nat → List Value → m_D → m_K → Prop} {Q : m_K} {tb : List m_E} {rk : Nat} {X Y : m_St → Prop} {σ : m_St} (hca : ∀ y as D (K K' : m_K), (∀ r D', K r D' → K' r D') → ca y as D K → ca y as D K') (h : ∀ τ, X τ → Y τ) (hs : m_step L dp ca Q tb rk X σ) : m_step L dp ca Q tb rk Y σ := by
  rcases hs with ⟨τ, a, b⟩ | ⟨q, τ, ρ, a, b, b'⟩ | ⟨q, τ, a, b, b'⟩ | ⟨i, js, f, a, b, b'⟩ | ⟨y, as, D, f, a, b⟩ | ⟨q, r, D, a, b, b'⟩ | ⟨x, d, cs, f, a, b⟩
  · exact Or.inl ⟨τ, a, h _ b⟩
  · exact Or.inr (Or.inl ⟨q, τ, ρ, a, fun z => h _ (b z), fun z => h _ (b' z)⟩)
  · exact Or.inr (Or.inr (Or.inl ⟨q, τ, a, b, h _ b'⟩))
  · exact Or.inr (Or.inr (Or.inr (Or.inl ⟨i, js, f, a, b, fun q z => h _ (b' q z)⟩)))
  · exact Or.inr (Or.inr (Or.inr (Or.inr (Or.inl ⟨y, as, D, f, a, hca _ _ _ _ _ (fun r D' z => h _ z) b⟩))))
  · exact Or.inr (Or.inr (Or.inr (Or.inr (Or.inr (Or.inl ⟨q, r, D, a, b, b'⟩)))))
  · exact Or.inr (Or.inr (Or.inr (Or.inr (Or.inr (Or.inr ⟨x, d, cs, f, a, m_cs_mono (fun t z => h _ z) cs b⟩)))))
theorem m_WP_step {L dp : Nat} {ca : Nat → List Value → m_D → m_K → Prop} {Q : m_K} {tb : List m_E} {rk : Nat} {σ : m_St} (hca : ∀ y as D (K K' : m_K), (∀ r D', K r D' → K' r D') → ca y as D K → ca y as D K') (hs : m_step L dp ca Q tb rk (m_WP L dp ca Q tb rk) σ) : m_WP L dp ca Q tb rk σ :=
  fun X hX => hX σ (m_step_mono hca (fun _ z => z X hX) hs)
theorem m_WP_post {L dp : Nat} {ca : Nat → List Value → m_D → m_K → Prop} {Q Q' : m_K} {tb : List m_E} {rk : Nat} {σ : m_St} (h : ∀ r D, Q r D → Q' r D) (hw : m_WP L dp ca Q tb rk σ) : m_WP L dp ca Q' tb rk σ := by
  intro X hX
  refine hw X (fun τ hs => hX τ ?_)
  rcases hs with a | a | a | a | a | ⟨q, r, D, a, b, b'⟩ | a
  · exact Or.inl a
  · exact Or.inr (Or.inl a)
  · exact Or.inr (Or.inr (Or.inl a))
  · exact Or.inr (Or.inr (Or.inr (Or.inl a)))
  · exact Or.inr (Or.inr (Or.inr (Or.inr (Or.inl a))))
  · exact Or.inr (Or.inr (Or.inr (Or.inr (Or.inr (Or.inl ⟨q, r, D, a, b, h _ _ b'⟩)))))
  · exact Or.inr (Or.inr (Or.inr (Or.inr (Or.inr (Or.inr a)))))
theorem m_call_post (L : Nat) : ∀ (d y : Nat) (as : List Value) (D : m_D) (K K' : m_K), (∀ r D', K r D' → K' r D') → m_call L d y as D K → m_call L d y as D K'
  | 0, _, _, _, _, _, _, h => h
  | _ + 1, _, _, _, _, _, h, ⟨lc, a, b⟩ => ⟨lc, a, m_WP_post h b⟩
/-! the rows with which a method is walked -/
abbrev m_V (L d : Nat) (Q : m_K) (tb : List m_E) (rk : Nat) (σ : m_St) : Prop := m_WP L d (m_call L d) Q tb rk σ
def m_run (tb : List m_E) : Nat → m_St → Option m_St
  | 0, σ => some σ
  | n + 1, σ => match m_go tb σ with
    | some τ => m_run tb n τ
    | none => some σ
section MV
variable {L d : Nat} {Q : m_K} {tb : List m_E} {rk : Nat} {σ τ ρ : m_St}
theorem v_run : ∀ (n : Nat) {σ τ : m_St}, m_run tb n σ = some τ → m_V L d Q tb rk τ → m_V L d Q tb rk σ
  | 0, σ, τ, h, k => by cases h; exact k
  | n + 1, σ, τ, h, k => by
    cases hg : m_go tb σ with
    | none =>
      have h : (match m_go tb σ with
        | some τ => m_run tb n τ
        | none => some σ) = some τ := h
      rw [hg] at h
      cases h
      exact k
    | some ρ =>
      have h : (match m_go tb σ with
        | some τ => m_run tb n τ
        | none => some σ) = some τ := h
      rw [hg] at h
      exact m_WP_step (m_call_post L d) (Or.inl ⟨ρ, hg, v_run n h k⟩)
theorem v_go (h : m_run tb 400 σ = some τ) (k : m_V L d Q tb rk τ) : m_V L d Q tb rk σ := v_run 400 h k
theorem v_g1 (h : m_go tb σ = some τ) (k : m_V L d Q tb rk τ) : m_V L d Q tb rk σ := m_WP_step (m_call_post L d) (Or.inl ⟨τ, h, k⟩)
theorem v_br {q : Prop} (h : m_br tb σ = some (q, τ, ρ)) (a : q → m_V L d Q tb rk τ) (b : ¬ q → m_V L d Q tb rk ρ) : m_V L d Q tb rk σ := m_WP_step (m_call_post L d) (Or.inr (Or.inl ⟨q, τ, ρ, h, a, b⟩))
theorem v_sd {q : Prop} (h : m_sd L d tb σ = some (q, τ)) (hq : q) (k : m_V L d Q tb rk τ) : m_V L d Q tb rk σ := m_WP_step (m_call_post L d) (Or.inr (Or.inr (Or.inl ⟨q, τ, h, hq, k⟩)))
theorem v_al {i : Int32} {js : List Nat} {f : Nat → m_St} (h : m_al tb σ = some (i, js, f)) (hi : vp_in i js.length) (k : ∀ q, js[i.toNatClampNeg]? = some q → m_V L d Q tb rk (f q)) : m_V L d Q tb rk σ := m_WP_step (m_call_post L d) (Or.inr (Or.inr (Or.inr (Or.inl ⟨i, js, f, h, hi, k⟩))))
theorem v_ca {y : Nat} {as : List Value} {D : m_D} {f : Option Value → m_D → m_St} (h : m_ca tb σ = some (y, as, D, f)) (k : m_call L d y as D (fun r D' => m_V L d Q tb rk (f r D'))) : m_V L d Q tb rk σ := m_WP_step (m_call_post L d) (Or.inr (Or.inr (Or.inr (Or.inr (Or.inl ⟨y, as, D, f, h, k⟩)))))
theorem v_rt {q : Prop} {r : Option Value} {D : m_D} (h : m_rt tb rk σ = some (q, r, D)) (hq : q) (k : Q r D) : m_V L d Q tb rk σ := m_WP_step (m_call_post L d) (Or.inr (Or.inr (Or.inr (Or.inr (Or.inr (Or.inl ⟨q, r, D, h, hq, k⟩))))))
theorem v_sw {x : Int32} {t : Nat} {cs : List (Int32 × Nat)} {f : Nat → m_St} (h : m_sw tb σ = some (x, t, cs, f)) (k : m_cs (fun t => m_V L d Q tb rk (f t)) x t cs) : m_V L d Q tb rk σ := m_WP_step (m_call_post L d) (Or.inr (Or.inr (Or.inr (Or.inr (Or.inr (Or.inr ⟨x, t, cs, f, h, k⟩))))))
/-- a method begins -/
theorem v_in {y rk' : Nat} {as : List Value} {D : m_D} {lc : m_Lc} {tb' : List m_E} (ht : (m_M y).2.2.2.2.2.2.2.2 = tb') (hr : (m_M y).2.2.2.2.2.1 = rk') (h : m_ent (m_M y).2.2.2.1 as (fun lc => some lc) = some lc) (k : m_V L d Q tb' rk' (0, lc, [], D)) : m_call L (d + 1) y as D Q := ⟨lc, h, by rw [ht, hr]; exact k⟩
end MV
