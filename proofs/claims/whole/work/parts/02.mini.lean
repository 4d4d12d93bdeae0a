/-! ===== A small machine of its own: ints in numbered cells, a fixed layout, no making. Its steps by a table of entries (pc, next, op, j, k, n, c, w). What it can do, the real machine does (part 05). ===== -/
abbrev m_D : Type := Nat → Nat → Int32
abbrev m_Lc : Type := List (Option Value)
abbrev m_St : Type := Nat × m_Lc × List Value × m_D
abbrev m_E : Type := Nat × Nat × Nat × Nat × Nat × Int × Int32 × Int64
abbrev m_Sh : Type := Nat ⊕ (List Nat ⊕ (Nat × List (Option Nat)))
abbrev m_K : Type := Option Value → m_D → Prop
/-- an entry with an int, and one with a long -/
def m_e (pc nx op j k : Nat) (n : Int) (c : Int32) : m_E := (pc, nx, op, j, k, n, c, 0)
def m_el (pc nx op j k : Nat) (w : Int64) : m_E := (pc, nx, op, j, k, 0, 0, w)
/-- the cells: an array of so many ints; the row of the four sheets; an object of a kind, its references (none: an int) -/
def m_shw (b : Nat) : m_Sh := .inr (.inr (2, [none, none, some (b + 1), some (b + 2), some (b + 3), some (b + 4), some (b + 5), some (b + 6)]))
def m_she (b : Nat) : m_Sh := .inr (.inr (1, [some (b + 1), none, none, none]))
def m_shp : List m_Sh := [
  .inr (.inr (4, [some 1, some 8, some 15, some 21, some 23, some 32, some 33, none, none, none])),
  .inr (.inr (2, [none, none, some 2, some 3, some 4, some 5, some 6, some 7])), .inl 6, .inl 6, .inl 3, .inl 3, .inl 3, .inl 6,
  .inr (.inr (2, [none, none, some 9, some 10, some 11, some 12, some 13, some 14])), .inl 6, .inl 6, .inl 3, .inl 3, .inl 3, .inl 6,
  .inr (.inr (0, [some 16, some 17, some 18, some 19, some 20, none, none, none])), .inl 6, .inl 6, .inl 6, .inl 24, .inl 4,
  .inr (.inr (3, [some 22, none, none])), .inl 60,
  .inr (.inl [24, 26, 28, 30]),
  .inr (.inr (1, [some 25, none, none, none])), .inl 60, .inr (.inr (1, [some 27, none, none, none])), .inl 60, .inr (.inr (1, [some 29, none, none, none])), .inl 60, .inr (.inr (1, [some 31, none, none, none])), .inl 60,
  .inl 8, .inl 8,
  .inr (.inr (5, [none, none, none, some 35, some 36, some 37, some 38, some 39, some 40, none, none, none, some 41, some 42, some 43, some 44, some 45, some 46, some 47, some 48, some 49, some 50, none, some 51, some 52, some 53, none, some 54, some 55, some 56, some 57, some 58, some 59, none])),
  .inl 6, .inl 6, .inl 3, .inl 3, .inl 3, .inl 4, .inl 6, .inl 6, .inl 3, .inl 3, .inl 3, .inl 6, .inl 6, .inl 6, .inl 24, .inl 4, .inl 6, .inl 3, .inl 4, .inl 8, .inl 8, .inl 4, .inl 4, .inl 240, .inl 60]
def m_up (D : m_D) (i j : Nat) (v : Int32) : m_D := fun a => if a = i then upd (D i) j v else D a
def m_cp (D : m_D) (a0 a1 sp dp n : Nat) : m_D := fun a => if a = a1 then va_cpy (D a0) (D a1) sp dp n else D a
def m_find : List m_E → Nat → Option m_E
  | [], _ => none
  | e :: t, pc => match Nat.beq e.1 pc with
    | true => some e
    | false => m_find t pc
def m_get {β : Type} : m_Lc → Nat → (Value → Option β) → Option β
  | [], _, _ => none
  | none :: _, 0, _ => none
  | some v :: _, 0, f => f v
  | _ :: t, n + 1, f => m_get t n f
/-- a value of one word goes into a place; a long ahead of it is no more -/
def m_set {β : Type} : m_Lc → Nat → Value → (m_Lc → Option β) → Option β
  | [], _, _, _ => none
  | _ :: t, 0, v, f => f (some v :: t)
  | some (.long _) :: t, 1, v, f => m_set t 0 v (fun t' => f (none :: t'))
  | some (.double _) :: t, 1, v, f => m_set t 0 v (fun t' => f (none :: t'))
  | o :: t, n + 1, v, f => m_set t n v (fun t' => f (o :: t'))
def m_set2 {β : Type} : m_Lc → Nat → Value → (m_Lc → Option β) → Option β
  | [], _, _, _ => none
  | [_], _, _, _ => none
  | _ :: _ :: t, 0, v, f => f (some v :: none :: t)
  | some (.long _) :: t, 1, v, f => m_set2 t 0 v (fun t' => f (none :: t'))
  | some (.double _) :: t, 1, v, f => m_set2 t 0 v (fun t' => f (none :: t'))
  | o :: t, n + 1, v, f => m_set2 t n v (fun t' => f (o :: t'))
def m_bin (k : Nat) (x y : Int32) : Option Int32 := match k with
  | 0 => some (x + y)
  | 1 => some (x - y)
  | 2 => some (x * y)
  | 3 => some (x &&& y)
  | 4 => some (x ||| y)
  | 5 => some (x ^^^ y)
  | 6 => some (x <<< (y &&& 31))
  | 7 => some (x >>> (y &&& 31))
  | 8 => some ((x.toUInt32 >>> (y.toUInt32 &&& Int32.toUInt32 31)).toInt32)
  | _ => none
def m_lbin (k : Nat) (x y : Int64) : Option Int64 := match k with
  | 0 => some (x + y)
  | 1 => some (x - y)
  | 2 => some (x * y)
  | _ => none
/-- what a field of a cell holds: a cell's number, or an int -/
def m_fld {β : Type} (a ci k : Nat) (f : Option Nat → Option β) : Option β := match m_shp[a]? with
  | some (.inr (.inr (ci', fs))) => match Nat.beq ci' ci with
    | true => match fs[k]? with
      | some o => f o
      | none => none
    | false => none
  | _ => none
def m_one : Value → Bool
  | .int _ => true
  | .ref _ => true
  | _ => false
/-- one step of straight code -/
def m_ex (e : m_E) (lc : m_Lc) (st : List Value) (D : m_D) : Option m_St := match e with
  | (_, nx, op, j, k, n, c, w) => match op with
    | 0 => some (nx, lc, .int c :: st, D)
    | 1 => some (nx, lc, .long w :: st, D)
    | 2 => m_get lc j (fun v => match v with
      | .int x => some (nx, lc, .int x :: st, D)
      | _ => none)
    | 3 => m_get lc j (fun v => match v with
      | .long x => some (nx, lc, .long x :: st, D)
      | _ => none)
    | 4 => m_get lc j (fun v => match v with
      | .ref x => some (nx, lc, .ref x :: st, D)
      | _ => none)
    | 5 => match st with
      | .int x :: st' => m_set lc j (.int x) (fun lc' => some (nx, lc', st', D))
      | _ => none
    | 6 => match st with
      | .long x :: st' => m_set2 lc j (.long x) (fun lc' => some (nx, lc', st', D))
      | _ => none
    | 7 => match st with
      | .ref x :: st' => m_set lc j (.ref x) (fun lc' => some (nx, lc', st', D))
      | _ => none
    | 8 => m_get lc j (fun v => match v with
      | .int x => m_set lc j (.int (x + c)) (fun lc' => some (nx, lc', st, D))
      | _ => none)
    | 9 => match st with
      | .int y :: .int x :: st' => match m_bin k x y with
        | some z => some (nx, lc, .int z :: st', D)
        | none => none
      | _ => none
    | 10 => match st with
      | .long y :: .long x :: st' => match m_lbin k x y with
        | some z => some (nx, lc, .long z :: st', D)
        | none => none
      | _ => none
    | 11 => match st with
      | .int x :: st' => some (nx, lc, .long x.toInt64 :: st', D)
      | _ => none
    | 12 => match st with
      | .int x :: st' => some (nx, lc, .int x.toInt8.toInt32 :: st', D)
      | _ => none
    | 13 => match st with
      | .int x :: st' => some (nx, lc, .int x.toInt16.toInt32 :: st', D)
      | _ => none
    | 14 => match st with
      | .long y :: .long x :: st' => some (nx, lc, .int (lg_cmp x y) :: st', D)
      | _ => none
    | 15 => match st with
      | v :: st' => match m_one v with
        | true => some (nx, lc, v :: v :: st', D)
        | false => none
      | _ => none
    | 16 => match st with
      | v :: u :: st' => match m_one v with
        | true => match m_one u with
          | true => some (nx, lc, v :: u :: v :: u :: st', D)
          | false => none
        | false => none
      | _ => none
    | 17 => match st with
      | .ref a :: st' => m_fld a n.toNat k (fun o => match o with
        | some q => some (nx, lc, .ref q :: st', D)
        | none => some (nx, lc, .int (D a k) :: st', D))
      | _ => none
    | 18 => match st with
      | .int x :: .ref a :: st' => m_fld a n.toNat k (fun o => match o with
        | some _ => none
        | none => some (nx, lc, st', m_up D a k x))
      | _ => none
    | 19 => some (j, lc, st, D)
    | _ => none
def m_go (tb : List m_E) (σ : m_St) : Option m_St := match σ with
  | (pc, lc, st, D) => match m_find tb pc with
    | some e => m_ex e lc st D
    | none => none
def m_c1 (k : Nat) (x : Int32) : Option Prop := match k with
  | 0 => some (x = 0)
  | 1 => some (¬ x = 0)
  | 2 => some (x < 0)
  | 3 => some (0 ≤ x)
  | 4 => some (0 < x)
  | 5 => some (x ≤ 0)
  | _ => none
def m_c2 (k : Nat) (x y : Int32) : Option Prop := match k with
  | 0 => some (x = y)
  | 1 => some (¬ x = y)
  | 2 => some (x < y)
  | 3 => some (y ≤ x)
  | 4 => some (y < x)
  | 5 => some (x ≤ y)
  | _ => none
/-- a branch: if so, there; if not, on -/
def m_br (tb : List m_E) (σ : m_St) : Option (Prop × m_St × m_St) := match σ with
  | (pc, lc, st, D) => match m_find tb pc with
    | some (_, nx, op, j, k, _, _, _) => match op with
      | 20 => match st with
        | .int x :: st' => match m_c1 k x with
          | some q => some (q, (j, lc, st', D), (nx, lc, st', D))
          | none => none
        | _ => none
      | 21 => match st with
        | .int y :: .int x :: st' => match m_c2 k x y with
          | some q => some (q, (j, lc, st', D), (nx, lc, st', D))
          | none => none
        | _ => none
      | _ => none
    | none => none
def m_len {β : Type} (L a : Nat) (f : Nat → Option β) : Option β := match Nat.beq a 60 with
  | true => f L
  | false => match m_shp[a]? with
    | some (.inl n) => f n
    | _ => none
/-- a step that asks something first -/
def m_sd (L dp : Nat) (tb : List m_E) (σ : m_St) : Option (Prop × m_St) := match σ with
  | (pc, lc, st, D) => match m_find tb pc with
    | some (_, nx, op, _, k, n, _, _) => match op with
      | 30 => match st with
        | .int i :: .ref a :: st' => m_len L a (fun z => some (vp_in i z, (nx, lc, .int (D a i.toNatClampNeg) :: st', D)))
        | _ => none
      | 31 => match st with
        | .int x :: .int i :: .ref a :: st' => match m_shp[a]? with
          | some (.inl z) => some (vp_in i z, (nx, lc, st', m_up D a i.toNatClampNeg x))
          | _ => none
        | _ => none
      | 33 => match st with
        | .ref a :: st' => m_len L a (fun z => some (True, (nx, lc, .int (Int32.ofNat z) :: st', D)))
        | _ => none
      | 34 => match st with
        | .int y :: .int x :: st' => some (¬ y = 0, (nx, lc, .int (x / y) :: st', D))
        | _ => none
      | 35 => match st with
        | .int y :: .int x :: st' => some (¬ y = 0, (nx, lc, .int (x - x / y * y) :: st', D))
        | _ => none
      | 36 => match st with
        | .long y :: .long x :: st' => some (¬ y = 0, (nx, lc, .long (x / y) :: st', D))
        | _ => none
      | 37 => match st with
        | .long y :: .long x :: st' => some (¬ y = 0, (nx, lc, .long (x - x / y * y) :: st', D))
        | _ => none
      | 38 => match st with
        | .int x :: .ref a :: st' => m_fld a n.toNat k (fun o => match o with
          | some _ => none
          | none => some (x = 0 ∨ x = 1, (nx, lc, st', m_up D a k x)))
        | _ => none
      | 39 => match dp with
        | 0 => none
        | _ + 1 => match st with
          | .int z :: .int dq :: .ref a1 :: .int sp :: .ref a0 :: st' => match m_shp[a0]? with
            | some (.inl n0) => match m_shp[a1]? with
              | some (.inl n1) => match st' with
                | [] => some (¬ sp < 0 ∧ ¬ dq < 0 ∧ ¬ z < 0 ∧ sp.toNatClampNeg + z.toNatClampNeg ≤ n0 ∧ dq.toNatClampNeg + z.toNatClampNeg ≤ n1, (nx, lc, [], m_cp D a0 a1 sp.toNatClampNeg dq.toNatClampNeg z.toNatClampNeg))
                | _ => none
              | _ => none
            | _ => none
          | _ => none
      | _ => none
    | none => none
/-- a sheet out of the row of sheets: which one, is asked -/
def m_al (tb : List m_E) (σ : m_St) : Option (Int32 × List Nat × (Nat → m_St)) := match σ with
  | (pc, lc, st, D) => match m_find tb pc with
    | some (_, nx, op, _, _, _, _, _) => match op with
      | 32 => match st with
        | .int i :: .ref a :: st' => match m_shp[a]? with
          | some (.inr (.inl js)) => some (i, js, fun q => (nx, lc, .ref q :: st', D))
          | _ => none
        | _ => none
      | _ => none
    | none => none
def m_pop {β : Type} : Nat → List Value → List Value → (List Value → List Value → Option β) → Option β
  | 0, acc, st, f => f acc st
  | _ + 1, _, [], _ => none
  | n + 1, acc, v :: st, f => m_pop n (v :: acc) st f
def m_cats : List Value → Nat
  | [] => 0
  | .long _ :: t => m_cats t + 2
  | .double _ :: t => m_cats t + 2
  | _ :: t => m_cats t + 1
/-- behind a call -/
def m_beh (nx : Nat) (lc : m_Lc) (st : List Value) (r : Option Value) (D : m_D) : m_St := match r with
  | none => (nx, lc, st, D)
  | some v => (nx, lc, v :: st, D)
/-- a call: of which method, with what, the words that wait, where it goes on -/
def m_ca (tb : List m_E) (σ : m_St) : Option (Nat × List Value × m_D × (Option Value → m_D → m_St)) := match σ with
  | (pc, lc, st, D) => match m_find tb pc with
    | some (_, nx, op, _, k, n, _, _) => match op with
      | 40 => m_pop (n.toNat % 16 + 1) [] st (fun as st' => match as with
        | .ref a :: as' => match m_shp[a]? with
          | some (.inr (.inr (ci, _))) => match Nat.beq ci (n.toNat / 16) with
            | true => match Nat.ble (m_cats st') 8 with
              | true => some (k, .ref a :: as', D, fun r D' => m_beh nx lc st' r D')
              | false => none
            | false => none
          | _ => none
        | _ => none)
      | 41 => m_pop n.toNat [] st (fun as st' => match Nat.ble (m_cats st') 8 with
        | true => some (k, as, D, fun r D' => m_beh nx lc st' r D')
        | false => none)
      | _ => none
    | none => none
/-- the end: 0 nothing, 1 an int, 2 a boolean, 3 a long -/
def m_rt (tb : List m_E) (rk : Nat) (σ : m_St) : Option (Prop × Option Value × m_D) := match σ with
  | (pc, _, st, D) => match m_find tb pc with
    | some (_, _, op, _, _, _, _, _) => match op with
      | 50 => match rk with
        | 0 => match st with
          | [] => some (True, none, D)
          | _ => none
        | _ => none
      | 51 => match st with
        | [.int v] => match rk with
          | 1 => some (True, some (.int v), D)
          | 2 => some (v = 0 ∨ v = 1, some (.int v), D)
          | _ => none
        | _ => none
      | 52 => match rk with
        | 3 => match st with
          | [.long v] => some (True, some (.long v), D)
          | _ => none
        | _ => none
      | _ => none
    | none => none
/-- of many cases the one that is so -/
def m_cs (X : Nat → Prop) (x : Int32) (d : Nat) : List (Int32 × Nat) → Prop
  | [] => X d
  | (v, t) :: r => (x = v → X t) ∧ (¬ x = v → m_cs X x d r)
