/-! ===== the document's rain, as functions: a shower is (lines, criers, rows 0 drops 1 field 2 kind 3 pace 4 start, who coughs) ===== -/
abbrev SH : Type := Nat × Nat × (Nat → Nat → Nat) × (Nat → Nat → Bool)
def oI : Option Nat → Int32
  | none => -9
  | some n => nI n
def p_hb (l s p : Nat) : Option Nat := if l < s then none else some ((l - s) / p)
def p_nx (t : Option Nat) (c : Nat) (q : Option Nat × Option Nat) : Option Nat × Option Nat := match t, q with
  | none, q => q
  | some t, (none, _) => (some t, some c)
  | some t, (some u, w) => if t < u then (some t, some c) else if t = u then (some u, none) else (some u, w)
def p_fr (S : SH) (l : Nat) : Nat → Option Nat × Option Nat
  | 0 => (none, none)
  | c + 1 => p_nx (p_hb l (S.2.2.1 4 c) (S.2.2.1 3 c)) c (p_fr S l c)
def p_hour (S : SH) (l : Nat) : Option Nat := (p_fr S l S.2.1).1
def p_by (S : SH) (l : Nat) : Option Nat := (p_fr S l S.2.1).2
def p_give (kd dr : Nat) : Nat := match kd with
  | 0 => dr
  | 1 => dr - 1
  | _ => (dr - 1) + dr
def p_amt (S : SH) (l : Nat) : Nat := match p_by S l with
  | none => 0
  | some c => p_give (S.2.2.1 2 c) (S.2.2.1 0 l)
def p_to (cg : Nat → Nat → Bool) (f t : Nat) : Option Nat := if cg f t = false then some f else if cg ((f + 1) % 4) t = false then some ((f + 1) % 4) else none
def p_dst (S : SH) (l : Nat) : Option Nat := match p_fr S l S.2.1 with
  | (some h, some _) => p_to S.2.2.2 (S.2.2.1 1 l) h
  | _ => none
def p_wet (S : SH) (f : Nat) : Nat → Nat
  | 0 => 0
  | l + 1 => p_wet S f l + (if p_dst S l = some f then p_amt S l else 0)
def p_came (S : SH) (f t : Nat) : Nat → Nat
  | 0 => 0
  | l + 1 => p_came S f t l + (if p_dst S l = some f ∧ p_hour S l = some t then p_amt S l else 0)
def p_lost (S : SH) : Nat → Nat
  | 0 => 0
  | l + 1 => p_lost S l + (if p_dst S l = none then p_amt S l else 0)
def p_hang (S : SH) : Nat → Int32
  | 0 => 0
  | l + 1 => if p_hour S l = none then p_hang S l ||| (1 <<< (nI l &&& 31)) else p_hang S l
def p_mud (S : SH) : Nat → Int32
  | 0 => 0
  | l + 1 => if ¬ p_hour S l = none ∧ p_by S l = none then p_mud S l ||| (1 <<< (nI l &&& 31)) else p_mud S l
/-- what a shower may be -/
def okS (S : SH) : Prop := S.1 ≤ 6 ∧ S.2.1 ≤ 3 ∧ (∀ l, l < S.1 → S.2.2.1 0 l ≤ 9 ∧ S.2.2.1 1 l < 4) ∧ ∀ c, c < S.2.1 → S.2.2.1 2 c ≤ 2 ∧ 1 ≤ S.2.2.1 3 c ∧ S.2.2.1 3 c ≤ 3 ∧ S.2.2.1 4 c < S.1
def b_sum (b : Nat → Bool) : Nat → Nat
  | 0 => 0
  | n + 1 => b_sum b n + (if b n then 2 ^ n else 0)
/-- a shower of the class at a cell, and the reference's -/
def relC (B : Nat) (D : m_D) (S : SH) : Prop := D B 0 = nI S.1 ∧ D B 1 = nI S.2.1 ∧ (∀ l, l < S.1 → D (B + 1) l = nI (S.2.2.1 0 l) ∧ D (B + 2) l = nI (S.2.2.1 1 l)) ∧ (∀ c, c < S.2.1 → D (B + 3) c = nI (S.2.2.1 2 c) ∧ D (B + 4) c = nI (S.2.2.1 3 c) ∧ D (B + 5) c = nI (S.2.2.1 4 c)) ∧ ∀ t, t < 6 → D (B + 6) t = nI (b_sum (fun f => S.2.2.2 f t) 4)
def relM (D : m_D) (S : SH) : Prop := D 34 1 = nI S.1 ∧ D 34 2 = nI S.2.1 ∧ (∀ l, l < S.1 → D 35 l = nI (S.2.2.1 0 l) ∧ D 36 l = nI (S.2.2.1 1 l)) ∧ (∀ c, c < S.2.1 → D 37 c = nI (S.2.2.1 2 c) ∧ D 38 c = nI (S.2.2.1 3 c) ∧ D 39 c = nI (S.2.2.1 4 c)) ∧ ∀ f, f < 4 → D 40 f = nI (b_sum (fun t => S.2.2.2 f t) 6)
theorem oI_none : oI none = -9 := rfl
theorem oI_some (n : Nat) : oI (some n) = nI n := rfl
theorem nI_m9 {n : Nat} (h : n < 2 ^ 31) : ¬ nI n = -9 := by
  intro e
  have h1 := congrArg Int32.toInt e
  rw [nI_toInt h] at h1
  have h2 : (-9 : Int32).toInt = -9 := by decide
  omega
theorem p_hb_le {l s p h : Nat} (e : p_hb l s p = some h) : h ≤ l := by
  unfold p_hb at e
  split at e
  · cases e
  · cases e
    exact Nat.le_trans (Nat.div_le_self _ _) (Nat.sub_le _ _)
theorem p_fr_ok (S : SH) (l : Nat) : ∀ c, (∀ h, (p_fr S l c).1 = some h → h ≤ l) ∧ (∀ w, (p_fr S l c).2 = some w → w < c ∧ (p_fr S l c).1 ≠ none)
  | 0 => ⟨fun h e => (by cases e), fun w e => (by cases e)⟩
  | c + 1 => by
    obtain ⟨h1, h2⟩ := p_fr_ok S l c
    have e : p_fr S l (c + 1) = p_nx (p_hb l (S.2.2.1 4 c) (S.2.2.1 3 c)) c (p_fr S l c) := rfl
    rw [e]
    cases ht : p_hb l (S.2.2.1 4 c) (S.2.2.1 3 c) with
    | none => exact ⟨h1, fun w hw => ⟨Nat.lt_succ_of_lt (h2 w hw).1, (h2 w hw).2⟩⟩
    | some t =>
      have ht' := p_hb_le ht
      rcases hq : p_fr S l c with ⟨a, w0⟩
      rw [hq] at h1 h2
      cases a with
      | none => exact ⟨fun h e => (by cases e; exact ht'), fun w e => (by cases e; exact ⟨Nat.lt_succ_self _, fun z => (by cases z)⟩)⟩
      | some u =>
        unfold p_nx
        dsimp only
        split
        · exact ⟨fun h e => (by cases e; exact ht'), fun w e => (by cases e; exact ⟨Nat.lt_succ_self _, fun z => (by cases z)⟩)⟩
        · split
          · exact ⟨fun h e => (by cases e; exact h1 u rfl), fun w e => (by cases e)⟩
          · exact ⟨fun h e => (by cases e; exact h1 u rfl), fun w e => ⟨Nat.lt_succ_of_lt (h2 w e).1, fun z => (by cases z)⟩⟩
theorem v_bT {L d : Nat} {Q : m_K} {tb : List m_E} {rk : Nat} {σ τ ρ : m_St} {q : Prop} (h : m_br tb σ = some (q, τ, ρ)) (hq : q) (k : m_V L d Q tb rk τ) : m_V L d Q tb rk σ := v_br h (fun _ => k) (fun z => absurd hq z)
theorem v_bF {L d : Nat} {Q : m_K} {tb : List m_E} {rk : Nat} {σ τ ρ : m_St} {q : Prop} (h : m_br tb σ = some (q, τ, ρ)) (hq : ¬ q) (k : m_V L d Q tb rk ρ) : m_V L d Q tb rk σ := v_br h (fun z => absurd z hq) (fun _ => k)
/-- a step that asks something, then on -/
theorem b_get4 : ∀ b0 b1 b2 b3 : Bool, ∀ f : Fin 4, (nI ((((0 + if b0 then 2 ^ 0 else 0) + if b1 then 2 ^ 1 else 0) + if b2 then 2 ^ 2 else 0) + if b3 then 2 ^ 3 else 0) >>> (nI f.val &&& 31)) &&& 1 = if (match f with
  | 0 => b0
  | 1 => b1
  | 2 => b2
  | 3 => b3) then 1 else 0 := by decide +kernel
theorem b_bit4 (b : Nat → Bool) {f : Nat} (hf : f < 4) : (nI (b_sum b 4) >>> (nI f &&& 31)) &&& 1 = if b f then 1 else 0 := by
  have h := b_get4 (b 0) (b 1) (b 2) (b 3) ⟨f, hf⟩
  have e : b_sum b 4 = ((((0 + if b 0 then 2 ^ 0 else 0) + if b 1 then 2 ^ 1 else 0) + if b 2 then 2 ^ 2 else 0) + if b 3 then 2 ^ 3 else 0) := rfl
  rw [e, h]
  match f, hf with
  | 0, _ => rfl
  | 1, _ => rfl
  | 2, _ => rfl
  | 3, _ => rfl
theorem b_get6 : ∀ b0 b1 b2 b3 b4 b5 : Bool, ∀ f : Fin 6, (nI ((((((0 + if b0 then 2 ^ 0 else 0) + if b1 then 2 ^ 1 else 0) + if b2 then 2 ^ 2 else 0) + if b3 then 2 ^ 3 else 0) + if b4 then 2 ^ 4 else 0) + if b5 then 2 ^ 5 else 0) >>> (nI f.val &&& 31)) &&& 1 = if (match f with
  | 0 => b0
  | 1 => b1
  | 2 => b2
  | 3 => b3
  | 4 => b4
  | 5 => b5) then 1 else 0 := by decide +kernel
theorem b_bit6 (b : Nat → Bool) {f : Nat} (hf : f < 6) : (nI (b_sum b 6) >>> (nI f &&& 31)) &&& 1 = if b f then 1 else 0 := by
  have h := b_get6 (b 0) (b 1) (b 2) (b 3) (b 4) (b 5) ⟨f, hf⟩
  have e : b_sum b 6 = ((((((0 + if b 0 then 2 ^ 0 else 0) + if b 1 then 2 ^ 1 else 0) + if b 2 then 2 ^ 2 else 0) + if b 3 then 2 ^ 3 else 0) + if b 4 then 2 ^ 4 else 0) + if b 5 then 2 ^ 5 else 0) := rfl
  rw [e, h]
  match f, hf with
  | 0, _ => rfl
  | 1, _ => rfl
  | 2, _ => rfl
  | 3, _ => rfl
  | 4, _ => rfl
  | 5, _ => rfl
/-- of the rows of D outside some cells nothing changes -/
def m_fr (Z : List Nat) (D D' : m_D) : Prop := ∀ a, a ∉ Z → D' a = D a
theorem m_fr.refl (Z : List Nat) (D : m_D) : m_fr Z D D := fun _ _ => rfl
theorem m_fr.trans {Z : List Nat} {D D1 D2 : m_D} (h : m_fr Z D D1) (g : m_fr Z D1 D2) : m_fr Z D D2 := fun a ha => (g a ha).trans (h a ha)
theorem m_fr.up {Z : List Nat} {D D1 : m_D} {i j : Nat} {v : Int32} (h : m_fr Z D D1) (hi : i ∈ Z) : m_fr Z D (m_up D1 i j v) := fun a ha => (m_up_ne (D := D1) (i := i) (a := a) (fun z => ha (by rw [z]; exact hi))).trans (h a ha)
theorem m_fr.sub {Z Y : List Nat} {D D1 : m_D} (h : m_fr Z D D1) (hs : ∀ a, a ∈ Z → a ∈ Y) : m_fr Y D D1 := fun a ha => h a (fun z => ha (hs a z))
theorem m_up_s {D : m_D} {i j : Nat} {v : Int32} : m_up D i j v i j = v := by rw [m_up_at, pk_us]
theorem m_up_n {D : m_D} {i j b : Nat} {v : Int32} (h : b ≠ j) : m_up D i j v i b = D i b := by rw [m_up_at, pk_un h]
