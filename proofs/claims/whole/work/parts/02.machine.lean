/-! ===== THE ABSTRACT MACHINE: what the byte codes of this claim do to a world of numbered cells (cell 0: the script). Its runs are tied to the real machine once for all (parts 03 ..); from there on all is about sk_cal. ===== -/
/-- a cell: an int array; an array of references (its kind, its length, its places); an object (its class, its fields) -/
abbrev sk_C : Type := (Nat × (Nat → Int32)) ⊕ ((Nat × Nat × (Nat → Option Nat)) ⊕ (Nat × List Value))
abbrev sk_W : Type := List sk_C
abbrev sk_R : Type := Option Value × sk_W
abbrev sk_L : Type := List (Option Value)
def sk_at : sk_L → Nat → Option Value
  | [], _ => none
  | a :: _, 0 => a
  | _ :: l, k + 1 => sk_at l k
def sk_up : sk_L → Nat → Value → sk_L
  | [], _, _ => []
  | _ :: l, 0, v => some v :: l
  | a :: l, k + 1, v => a :: sk_up l k v
/-- an int field, a reference's field -/
def sk_geti (w : sk_W) (a ci k : Nat) : Option Int32 := match w[a]? with
  | some (.inr (.inr (c, fs))) => if c = ci then (match fs[k]? with
    | some (.int v) => some v
    | _ => none) else none
  | _ => none
def sk_getr (w : sk_W) (a ci k : Nat) : Option Nat := match w[a]? with
  | some (.inr (.inr (c, fs))) => if c = ci then (match fs[k]? with
    | some (.ref v) => some v
    | _ => none) else none
  | _ => none
def sk_put (w : sk_W) (a ci k : Nat) (v : Value) : Option sk_W := match w[a]? with
  | some (.inr (.inr (c, fs))) => if c = ci ∧ k < fs.length then some (w.set a (.inr (.inr (c, fs.set k v)))) else none
  | _ => none
/-- places of arrays -/
def sk_ald (w : sk_W) (a : Nat) (i : Int32) : Option Int32 := match w[a]? with
  | some (.inl (n, f)) => if i < 0 ∨ n ≤ i.toNatClampNeg then none else some (f i.toNatClampNeg)
  | _ => none
def sk_ast (w : sk_W) (a : Nat) (i x : Int32) : Option sk_W := match a with
  | 0 => none
  | a + 1 => match w[a + 1]? with
    | some (.inl (n, f)) => if i < 0 ∨ n ≤ i.toNatClampNeg then none else some (w.set (a + 1) (.inl (n, upd f i.toNatClampNeg x)))
    | _ => none
def sk_aldr (w : sk_W) (a : Nat) (i : Int32) : Option Nat := match w[a]? with
  | some (.inr (.inl (t, n, f))) => if t < 4 then (if i < 0 ∨ n ≤ i.toNatClampNeg then none else f i.toNatClampNeg) else none
  | _ => none
def sk_isO (w : sk_W) (a ci : Nat) : Bool := match w[a]? with
  | some (.inr (.inr (c, _))) => c == ci
  | _ => false
/-- an array of objects of class x of the kind t -/
def sk_astr (w : sk_W) (a t ci : Nat) (i : Int32) (v : Nat) : Option sk_W := match w[a]? with
  | some (.inr (.inl (t', n, f))) => if t' = t ∧ sk_isO w v ci = true then (if i < 0 ∨ n ≤ i.toNatClampNeg then none else some (w.set a (.inr (.inl (t', n, va_up f i.toNatClampNeg (some v)))))) else none
  | _ => none
def sk_len (w : sk_W) (a : Nat) : Option Int32 := match w[a]? with
  | some (.inl (n, _)) => some (Int32.ofNat n)
  | _ => none
/-- System.arraycopy of ints -/
def sk_copy (w : sk_W) (a0 : Nat) (sp : Int32) (a : Nat) (dp n : Int32) : Option sk_W := match a with
  | 0 => none
  | a + 1 => match a0 with
    | 0 => none
    | a0 + 1 => match w[a0 + 1]? with
      | some (.inl (n0, f)) => match w[a + 1]? with
        | some (.inl (n1, g)) => if ¬ sp < 0 ∧ ¬ dp < 0 ∧ ¬ n < 0 ∧ sp.toNatClampNeg + n.toNatClampNeg ≤ n0 ∧ dp.toNatClampNeg + n.toNatClampNeg ≤ n1 then some (w.set (a + 1) (.inl (n1, va_cpy f g sp.toNatClampNeg dp.toNatClampNeg n.toNatClampNeg))) else none
        | _ => none
      | _ => none
/-- the arguments of a call, off the stack -/
def sk_pops : Nat → List Value → List Value → Option (List Value × List Value)
  | 0, acc, st => if (st.map fun v => v.category).sum ≤ 8 then some (acc, st) else none
  | n + 1, acc, v :: st => if v.category = 1 then sk_pops n (v :: acc) st else none
  | _ + 1, _, [] => none
/-- the receiver of a call is an object of the class ci -/
def sk_rcv (w : sk_W) (ci : Nat) : List Value → Bool
  | .ref a :: _ => sk_isO w a ci
  | _ => false
/-- what is pushed behind a call: nothing (0), an int (1), a float (2) -/
def sk_push (z : Nat) (o : Option sk_R) (k : List Value → sk_W → Option sk_R) : Option sk_R := match z with
  | 0 => match o with
    | some (none, w) => k [] w
    | _ => none
  | 1 => match o with
    | some (some (.int v), w) => k [.int v] w
    | _ => none
  | _ => match o with
    | some (some (.float v), w) => k [.float v] w
    | _ => none
def sk_sw (v : Int32) (pc d : Int) (k : Nat → Option sk_R) : Int → List Int → Option sk_R
  | _, [] => k (pc + d).toNat
  | lo, o :: os => if v.toInt = lo then k (pc + o).toNat else sk_sw v pc d k (lo + 1) os
def sk_cond (c : Jvm.ClassFile.Cond) (x y : Int32) : Bool := match c with
  | .eq => x == y
  | .ne => x != y
  | .lt => decide (x < y)
  | .ge => decide (y ≤ x)
  | .gt => decide (y < x)
  | .le => decide (x ≤ y)
abbrev sk_K : Type := Nat → sk_L → List Value → sk_W → Option sk_R
/-- one instruction i (with what the pool told of it: x, y, z), then k -/
def sk_step (cal : Nat → List Value → sk_W → Option sk_R) (fields : Nat → List Value) (rz : Bool) (i : Instr) (x y z pc : Nat) (ls : sk_L) (st : List Value) (w : sk_W) (k : sk_K) : Option sk_R := match i with
  | .iconst n => k (pc + 1) ls (.int (Int32.ofInt n) :: st) w
  | .bipush n => k (pc + 2) ls (.int (Int8.ofInt n).toInt32 :: st) w
  | .sipush n => k (pc + 3) ls (.int (Int16.ofInt n).toInt32 :: st) w
  | .ldc _ => k (pc + 2) ls (.int (Int32.ofNat x) :: st) w
  | .ldc_w _ => if y = 0 then k (pc + 3) ls (.int (Int32.ofNat x) :: st) w else k (pc + 3) ls (.float (UInt32.ofNat x) :: st) w
  | .fconst n => k (pc + 1) ls (.float (if n = 0 then FP.fconst0 else if n = 1 then FP.fconst1 else FP.fconst2) :: st) w
  | .iload_n n => match sk_at ls n.val with
    | some (.int v) => k (pc + 1) ls (.int v :: st) w
    | _ => none
  | .iload n => match sk_at ls n with
    | some (.int v) => k (pc + 2) ls (.int v :: st) w
    | _ => none
  | .fload_n n => match sk_at ls n.val with
    | some (.float v) => k (pc + 1) ls (.float v :: st) w
    | _ => none
  | .fload n => match sk_at ls n with
    | some (.float v) => k (pc + 2) ls (.float v :: st) w
    | _ => none
  | .aload_n n => match sk_at ls n.val with
    | some (.ref v) => k (pc + 1) ls (.ref v :: st) w
    | _ => none
  | .aload n => match sk_at ls n with
    | some (.ref v) => k (pc + 2) ls (.ref v :: st) w
    | _ => none
  | .istore_n n => match st with
    | .int v :: st => k (pc + 1) (sk_up ls n.val (.int v)) st w
    | _ => none
  | .istore n => match st with
    | .int v :: st => k (pc + 2) (sk_up ls n (.int v)) st w
    | _ => none
  | .fstore_n n => match st with
    | .float v :: st => k (pc + 1) (sk_up ls n.val (.float v)) st w
    | _ => none
  | .fstore n => match st with
    | .float v :: st => k (pc + 2) (sk_up ls n (.float v)) st w
    | _ => none
  | .astore_n n => match st with
    | .ref v :: st => k (pc + 1) (sk_up ls n.val (.ref v)) st w
    | _ => none
  | .astore n => match st with
    | .ref v :: st => k (pc + 2) (sk_up ls n (.ref v)) st w
    | _ => none
  | .iinc n c => match sk_at ls n with
    | some (.int v) => k (pc + 3) (sk_up ls n (.int (v + Int32.ofInt c))) st w
    | _ => none
  | .iadd => match st with
    | .int b :: .int a :: st => k (pc + 1) ls (.int (a + b) :: st) w
    | _ => none
  | .isub => match st with
    | .int b :: .int a :: st => k (pc + 1) ls (.int (a - b) :: st) w
    | _ => none
  | .imul => match st with
    | .int b :: .int a :: st => k (pc + 1) ls (.int (a * b) :: st) w
    | _ => none
  | .idiv => match st with
    | .int b :: .int a :: st => if b = 0 then none else k (pc + 1) ls (.int (a / b) :: st) w
    | _ => none
  | .irem => match st with
    | .int b :: .int a :: st => if b = 0 then none else k (pc + 1) ls (.int (a - a / b * b) :: st) w
    | _ => none
  | .ineg => match st with
    | .int a :: st => k (pc + 1) ls (.int (-a) :: st) w
    | _ => none
  | .iand => match st with
    | .int b :: .int a :: st => k (pc + 1) ls (.int (a &&& b) :: st) w
    | _ => none
  | .ior => match st with
    | .int b :: .int a :: st => k (pc + 1) ls (.int (a ||| b) :: st) w
    | _ => none
  | .ishl => match st with
    | .int b :: .int a :: st => k (pc + 1) ls (.int (a <<< (b &&& 31)) :: st) w
    | _ => none
  | .iushr => match st with
    | .int b :: .int a :: st => k (pc + 1) ls (.int (a.toUInt32 >>> (b.toUInt32 &&& Int32.toUInt32 31)).toInt32 :: st) w
    | _ => none
  | .i2s => match st with
    | .int a :: st => k (pc + 1) ls (.int a.toInt16.toInt32 :: st) w
    | _ => none
  | .i2f => match st with
    | .int a :: st => k (pc + 1) ls (.float (FP.i2f a) :: st) w
    | _ => none
  | .f2i => match st with
    | .float a :: st => k (pc + 1) ls (.int (FP.f2i a) :: st) w
    | _ => none
  | .fadd => match st with
    | .float b :: .float a :: st => if FP.fadd a b &&& 0x7fffffff ≤ 0x7f800000 then k (pc + 1) ls (.float (FP.fadd a b) :: st) w else none
    | _ => none
  | .fsub => match st with
    | .float b :: .float a :: st => if FP.fsub a b &&& 0x7fffffff ≤ 0x7f800000 then k (pc + 1) ls (.float (FP.fsub a b) :: st) w else none
    | _ => none
  | .fmul => match st with
    | .float b :: .float a :: st => if FP.fmul a b &&& 0x7fffffff ≤ 0x7f800000 then k (pc + 1) ls (.float (FP.fmul a b) :: st) w else none
    | _ => none
  | .fdiv => match st with
    | .float b :: .float a :: st => if FP.fdiv a b &&& 0x7fffffff ≤ 0x7f800000 then k (pc + 1) ls (.float (FP.fdiv a b) :: st) w else none
    | _ => none
  | .fcmp op => match st with
    | .float b :: .float a :: st => k (pc + 1) ls (.int (Op.cmpValue (FP.fcmp a b) op) :: st) w
    | _ => none
  | .dup => match st with
    | .int a :: st => k (pc + 1) ls (.int a :: .int a :: st) w
    | .ref a :: st => k (pc + 1) ls (.ref a :: .ref a :: st) w
    | _ => none
  | .dup2 => match st with
    | .int b :: .ref a :: st => k (pc + 1) ls (.int b :: .ref a :: .int b :: .ref a :: st) w
    | _ => none
  | .pop => match st with
    | .int _ :: st => k (pc + 1) ls st w
    | _ => none
  | .goto _ => k x ls st w
  | .ifCond c _ => match st with
    | .int a :: st => if sk_cond c a 0 then k x ls st w else k (pc + 3) ls st w
    | _ => none
  | .if_icmp c _ => match st with
    | .int b :: .int a :: st => if sk_cond c a b then k x ls st w else k (pc + 3) ls st w
    | _ => none
  | .tableswitch d lo _ offs => match st with
    | .int a :: st => sk_sw a pc d (fun t => k t ls st w) lo offs.toList
    | _ => none
  | .getfield _ => match st with
    | .ref a :: st => if z = 1 then (sk_getr w a x y).bind fun v => k (pc + 3) ls (.ref v :: st) w else (sk_geti w a x y).bind fun v => k (pc + 3) ls (.int v :: st) w
    | _ => none
  | .putfield _ => match st with
    | .int v :: .ref a :: st => if z = 0 then (sk_put w a x y (.int v)).bind fun w1 => k (pc + 3) ls st w1
      else if z = 2 then (if v = 0 ∨ v = 1 then (sk_put w a x y (.int v)).bind fun w1 => k (pc + 3) ls st w1 else none) else none
    | .ref v :: .ref a :: st => if z = 3 then (sk_put w a x y (.ref v)).bind fun w1 => k (pc + 3) ls st w1 else none
    | _ => none
  | .iaload => match st with
    | .int j :: .ref a :: st => (sk_ald w a j).bind fun v => k (pc + 1) ls (.int v :: st) w
    | _ => none
  | .iastore => match st with
    | .int v :: .int j :: .ref a :: st => (sk_ast w a j v).bind fun w1 => k (pc + 1) ls st w1
    | _ => none
  | .aaload => match st with
    | .int j :: .ref a :: st => (sk_aldr w a j).bind fun v => k (pc + 1) ls (.ref v :: st) w
    | _ => none
  | .aastore => match st with
    | .ref v :: .int j :: .ref a :: st => (sk_astr w a x y j v).bind fun w1 => k (pc + 1) ls st w1
    | _ => none
  | .arraylength => match st with
    | .ref a :: st => (sk_len w a).bind fun v => k (pc + 1) ls (.int v :: st) w
    | _ => none
  | .new _ => k (pc + 3) ls (.ref w.length :: st) (w ++ [.inr (.inr (x, fields x))])
  | .newarray _ => match st with
    | .int n :: st => if ¬ n < 0 ∧ n.toNatClampNeg ≤ 100000 then k (pc + 2) ls (.ref w.length :: st) (w ++ [.inl (n.toNatClampNeg, fun _ => 0)]) else none
    | _ => none
  | .anewarray _ => match st with
    | .int n :: st => if ¬ n < 0 ∧ n.toNatClampNeg ≤ 100000 then k (pc + 3) ls (.ref w.length :: st) (w ++ [.inr (.inl (x, n.toNatClampNeg, fun _ => none))]) else none
    | _ => none
  | .multianewarray _ _ => match st with
    | .int j :: .int n :: st => if ¬ n < 0 ∧ ¬ j < 0 ∧ n.toNatClampNeg ≤ 1000 ∧ j.toNatClampNeg ≤ 100000 then
        k (pc + 4) ls (.ref w.length :: st) (w ++ .inr (.inl (3, n.toNatClampNeg, fun q => if q < n.toNatClampNeg then some (w.length + 1 + q) else none)) :: List.replicate n.toNatClampNeg (.inl (j.toNatClampNeg, fun _ => 0))) else none
    | _ => none
  | .invokevirtual _ => match sk_pops (y + 1) [] st with
    | some (as, st) => if sk_rcv w (z / 4) as = true then sk_push (z % 4) (cal x as w) fun r w1 => k (pc + 3) ls (r ++ st) w1 else none
    | none => none
  | .invokespecial _ => if x = 0 then (match st with
    | .ref _ :: st => if (st.map fun v => v.category).sum ≤ 8 then k (pc + 3) ls st w else none
    | _ => none) else match sk_pops (y + 1) [] st with
    | some (as, st) => if sk_rcv w (z / 4) as = true then sk_push 0 (cal x as w) fun r w1 => k (pc + 3) ls (r ++ st) w1 else none
    | none => none
  | .invokestatic _ => if x = 0 then (if y = 5 then (match st with
    | .int n :: .int dp :: .ref a :: .int sp :: .ref a0 :: st => if (st.map fun v => v.category).sum ≤ 8 then (sk_copy w a0 sp a dp n).bind fun w1 => k (pc + 3) ls st w1 else none
    | _ => none) else match st with
    | .float v :: st => if (st.map fun v => v.category).sum ≤ 8 then k (pc + 3) ls (.int v.toInt32 :: st) w else none
    | _ => none) else match sk_pops y [] st with
    | some (as, st) => sk_push (z % 4) (cal x as w) fun r w1 => k (pc + 3) ls (r ++ st) w1
    | none => none
  | .ireturn => match st with
    | .int v :: [] => if rz = true then (if v = 0 ∨ v = 1 then some (some (.int v), w) else none) else some (some (.int v), w)
    | _ => none
  | .freturn => match st with
    | .float v :: [] => some (some (.float v), w)
    | _ => none
  | .return_ => match st with
    | [] => some (none, w)
    | _ => none
  | _ => none
abbrev sk_E : Type := Nat × Instr × Nat × Nat × Nat
def sk_find : List sk_E → Nat → Option (Instr × Nat × Nat × Nat)
  | [], _ => none
  | e :: l, pc => bif Nat.beq e.1 pc then some e.2 else sk_find l pc
/-- n instructions at most -/
def sk_run (cal : Nat → List Value → sk_W → Option sk_R) (fields : Nat → List Value) (rz : Bool) (tab : List sk_E) : Nat → sk_K
  | 0, _, _, _, _ => none
  | n + 1, pc, ls, st, w => match sk_find tab pc with
    | none => none
    | some (i, x, y, z) => sk_step cal fields rz i x y z pc ls st w (sk_run cal fields rz tab n)
