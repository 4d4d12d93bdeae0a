/-! ===== what a program decides of the tables: each entry is what the bytes say; each word stands in the tables ===== -/
def m_fin4 (j : Nat) : Fin 4 := Fin.ofNat 4 j
def m_is (b : ByteArray) (pc : Nat) (i : Instr) (n nx : Nat) : Bool := decide (decode b pc = .ok (i, n)) && decide (nx = pc + n)
def m_ld (b : ByteArray) (pc j k nx : Nat) (f : Fin 4 → Instr) (g : Nat → Instr) : Bool := match k with
  | 0 => m_is b pc (f (m_fin4 j)) 1 nx && decide (j < 4)
  | _ => m_is b pc (g j) 2 nx
def m_bi (k : Nat) : Instr := match k with
  | 0 => .iadd
  | 1 => .isub
  | 2 => .imul
  | 3 => .iand
  | 4 => .ior
  | 5 => .ixor
  | 6 => .ishl
  | 7 => .ishr
  | _ => .iushr
def m_lb (k : Nat) : Instr := match k with
  | 0 => .ladd
  | 1 => .lsub
  | _ => .lmul
def m_i1 (k : Nat) (n : Int) : Instr := match k with
  | 0 => .ifCond .eq n
  | 1 => .ifCond .ne n
  | 2 => .ifCond .lt n
  | 3 => .ifCond .ge n
  | 4 => .ifCond .gt n
  | _ => .ifCond .le n
def m_i2 (k : Nat) (n : Int) : Instr := match k with
  | 0 => .if_icmp .eq n
  | 1 => .if_icmp .ne n
  | 2 => .if_icmp .lt n
  | 3 => .if_icmp .ge n
  | 4 => .if_icmp .gt n
  | _ => .if_icmp .le n
def m_to (pc : Nat) (n : Int) (j : Nat) : Bool := decide ((pc : Int) + n = (j : Int))
/-- a field: its link stands among the links; its place is one that there is; whether it is final, boolean -/
def m_fk (o j ci k : Nat) : Bool := decide ((o, j, ci, k) ∈ m_fls)
def m_fi (ci k : Nat) (ty : FieldType) : Bool := match m_cl[ci]? with
  | some (_, T, N) => decide (k < N) && decide ((T k).2.2.2 = false) && decide (parseFieldDescriptor (T k).2.2.1 = some ty)
  | none => false
def m_fn (ci k : Nat) : Bool := match m_cl[ci]? with
  | some (_, _, N) => decide (k < N)
  | none => false
def m_ck (b : ByteArray) (o : Nat) (e : m_E) : Bool := match e with
  | (pc, nx, op, j, k, n, c, w) => match op with
    | 0 => match k with
      | 0 => m_is b pc (.iconst n) 1 nx && decide (Int32.ofInt n = c)
      | 1 => m_is b pc (.bipush n) 2 nx && decide ((Int8.ofInt n).toInt32 = c)
      | 2 => m_is b pc (.sipush n) 3 nx && decide ((Int16.ofInt n).toInt32 = c)
      | _ => m_is b pc (.ldc_w j) 3 nx && decide ((o, j, c) ∈ m_cos)
    | 1 => match k with
      | 0 => m_is b pc (.lconst 0) 1 nx && decide (w = 0)
      | 1 => m_is b pc (.lconst 1) 1 nx && decide (w = 1)
      | _ => m_is b pc (.ldc2_w j) 3 nx && decide ((o, j, w) ∈ m_los)
    | 2 => m_ld b pc j k nx .iload_n .iload
    | 3 => m_ld b pc j k nx .lload_n .lload
    | 4 => m_ld b pc j k nx .aload_n .aload
    | 5 => m_ld b pc j k nx .istore_n .istore
    | 6 => m_ld b pc j k nx .lstore_n .lstore
    | 7 => m_ld b pc j k nx .astore_n .astore
    | 8 => m_is b pc (.iinc j n) 3 nx && decide (Int32.ofInt n = c)
    | 9 => m_is b pc (m_bi k) 1 nx
    | 10 => m_is b pc (m_lb k) 1 nx
    | 11 => m_is b pc .i2l 1 nx
    | 12 => m_is b pc .i2b 1 nx
    | 13 => m_is b pc .i2s 1 nx
    | 14 => m_is b pc .lcmp 1 nx
    | 15 => m_is b pc .dup 1 nx
    | 16 => m_is b pc .dup2 1 nx
    | 17 => m_is b pc (.getfield j) 3 nx && m_fk o j n.toNat k && m_fn n.toNat k
    | 18 => m_is b pc (.putfield j) 3 nx && m_fk o j n.toNat k && m_fi n.toNat k .int
    | 19 => m_is b pc (.goto n) 3 nx && m_to pc n j
    | 20 => m_is b pc (m_i1 k n) 3 nx && m_to pc n j
    | 21 => m_is b pc (m_i2 k n) 3 nx && m_to pc n j
    | 30 => m_is b pc .iaload 1 nx
    | 31 => m_is b pc .iastore 1 nx
    | 32 => m_is b pc .aaload 1 nx
    | 33 => m_is b pc .arraylength 1 nx
    | 34 => m_is b pc .idiv 1 nx
    | 35 => m_is b pc .irem 1 nx
    | 36 => m_is b pc .ldiv 1 nx
    | 37 => m_is b pc .lrem 1 nx
    | 38 => m_is b pc (.putfield j) 3 nx && m_fk o j n.toNat k && m_fi n.toNat k .boolean
    | 39 => m_is b pc (.invokestatic j) 3 nx && decide ((o, j) ∈ m_acs)
    | 40 => m_is b pc (.invokevirtual j) 3 nx && decide ((o, j, k) ∈ m_mls) && decide (k < 169) && decide ((m_M k).2.2.2.2.2.2.1 = n.toNat % 16) && decide ((m_M k).1 = n.toNat / 16) && decide (k ∈ m_ins)
    | 41 => m_is b pc (.invokestatic j) 3 nx && decide ((o, j, k) ∈ m_mls) && decide (k < 169) && decide ((m_M k).2.2.2.2.2.2.1 = n.toNat) && decide (k ∈ m_sts)
    | 50 => m_is b pc .return_ 1 nx
    | 51 => m_is b pc .ireturn 1 nx
    | 52 => m_is b pc .lreturn 1 nx
    | 60 => match decode b pc with
      | .ok (.tableswitch d lo hi offs, _) => m_to pc d j && decide (hi = lo + ((m_sws.getD k []).length : Int) - 1) && (m_sws.getD k []).zipIdx.all (fun q => decide (q.1.1.toInt = lo + (q.2 : Int)) && (match offs[q.2]? with
        | some off => m_to pc off q.1.2
        | none => false))
      | _ => false
    | 61 => match decode b pc with
      | .ok (.lookupswitch d ps, _) => m_to pc d j && (ps.toList.zip (ps.toList.drop 1)).all (fun (a, next) => a.1 < next.1) && decide (ps.toList.map (fun q => (q.1, (pc : Int) + q.2)) = (m_sws.getD k []).map (fun q => (q.1.toInt, (q.2 : Int))))
      | _ => false
    | _ => false
def m_ckR (o : Nat) (y : MethodName) (mx : Nat) (rt : Option FieldType) (rk np : Nat) : Bool := decide (mx ≤ 16) && plainFor y && decide (y.cls = m_cn o) && decide (o < 10) && decide (y.cls ≠ "java/lang/invoke/MethodHandle") && decide (y.cls ≠ "java/lang/invoke/VarHandle") && decide ((parseMethodDescriptor y.desc).map (fun d => d.parameters.length) = some np)
    && (match rk with
      | 0 => decide (rt = none)
      | 1 => decide (rt = some .int)
      | 2 => decide (rt = some .boolean)
      | _ => decide (rt = some .long))
def m_ckM (M : m_Me) : Bool := match M with
  | (o, y, b, mx, rt, rk, np, _, tb) => tb.all (m_ck b o) && m_ckR o y mx rt rk np
theorem m_ckM_of {o : Nat} {y : MethodName} {b : ByteArray} {mx : Nat} {rt : Option FieldType} {rk np z : Nat} {tb : List m_E} (h : tb.all (m_ck b o) = true) (g : m_ckR o y mx rt rk np = true) : m_ckM (o, y, b, mx, rt, rk, np, z, tb) = true := by
  show (tb.all (m_ck b o) && m_ckR o y mx rt rk np) = true
  rw [h, g]
  rfl
