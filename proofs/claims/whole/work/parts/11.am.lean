/-! ===== the abstract machine: the methods' own code, run over a heap of numbered things ===== -/
/-- ints, longs, references, each by thing and place; kind and length of each thing; how many there are; cells and slots made -/
abbrev am_S : Type := (Nat → Nat → Int32) × (Nat → Nat → Int64) × (Nat → Nat → Option Nat) × (Nat → Nat × Nat) × Nat × Nat × Nat
abbrev am_I (σ : am_S) : Nat → Nat → Int32 := σ.1
abbrev am_L (σ : am_S) : Nat → Nat → Int64 := σ.2.1
abbrev am_R (σ : am_S) : Nat → Nat → Option Nat := σ.2.2.1
abbrev am_K (σ : am_S) : Nat → Nat × Nat := σ.2.2.2.1
abbrev am_n (σ : am_S) : Nat := σ.2.2.2.2.1
abbrev am_c (σ : am_S) : Nat := σ.2.2.2.2.2.1
abbrev am_z (σ : am_S) : Nat := σ.2.2.2.2.2.2
def am_u {α : Type} (f : Nat → Nat → α) (a k : Nat) (v : α) : Nat → Nat → α := fun b => if b = a then va_up (f a) k v else f b
def am_w {α : Type} (f : Nat → α) (a : Nat) (v : α) : Nat → α := fun b => if b = a then v else f b
def am_sI (σ : am_S) (a k : Nat) (v : Int32) : am_S := (am_u σ.1 a k v, σ.2)
def am_sL (σ : am_S) (a k : Nat) (v : Int64) : am_S := (σ.1, am_u σ.2.1 a k v, σ.2.2)
def am_sR (σ : am_S) (a k : Nat) (v : Option Nat) : am_S := (σ.1, σ.2.1, am_u σ.2.2.1 a k v, σ.2.2.2)
def am_sA (σ : am_S) (a : Nat) (f : Nat → Int32) : am_S := (am_w σ.1 a f, σ.2)
def am_new (σ : am_S) (kd len zs : Nat) : am_S := (am_w σ.1 (am_n σ) (fun _ => 0), am_w σ.2.1 (am_n σ) (fun _ => 0), am_w σ.2.2.1 (am_n σ) (fun _ => none), am_w σ.2.2.2.1 (am_n σ) (kd, len), am_n σ + 1, am_c σ + 1, am_z σ + zs)
def am_tick (σ : am_S) : am_S := (σ.1, σ.2.1, σ.2.2.1, σ.2.2.2.1, am_n σ, am_c σ + 1, am_z σ + 6)
def am_find {α : Type} (k : Nat) : List (Nat × α) → Option α
  | [] => none
  | q :: l => if q.1 = k then some q.2 else am_find k l
abbrev am_Ls : Type := List (Nat × Value)
def am_get (ls : am_Ls) (i : Nat) : Option Value := am_find i ls
def am_ins (i : Nat) (v : Value) : am_Ls → am_Ls
  | [] => [(i, v)]
  | q :: l => if i < q.1 then (i, v) :: q :: l else q :: am_ins i v l
def am_drop (ls : am_Ls) (i : Nat) : am_Ls := ls.filter (fun q => !(q.1 == i) && !(q.1 + 1 == i && q.2.category == 2))
def am_drop2 (ls : am_Ls) (i : Nat) : am_Ls := ls.filter (fun q => !(q.1 == i) && (!(q.1 == i + 1) && !(q.1 + 1 == i && q.2.category == 2)))
def am_set (ls : am_Ls) (i : Nat) (v : Value) : am_Ls := if v.category = 2 then am_ins i v (am_drop2 ls i) else am_ins i v (am_drop ls i)
def am_ty : Nat → Value → Bool
  | 0, .int _ => true
  | 1, .long _ => true
  | 2, .ref _ => true
  | 2, .null => true
  | _, _ => false
def am_in (i : Int32) (n : Nat) : Bool := decide (¬ (i < 0 ∨ n ≤ i.toNatClampNeg))
/-- constants -/
def am_cst (M : am_M) : Instr → Option Value
  | .iconst n => some (.int (Int32.ofInt n))
  | .bipush n => some (.int (Int8.ofInt n).toInt32)
  | .sipush n => some (.int (Int16.ofInt n).toInt32)
  | .lconst n => some (.long (Int64.ofNat (n : Nat)))
  | .aconst_null => some .null
  | .ldc k => match am_find k (am_ciT (am_own M)) with
    | some v => some (.int v)
    | none => (am_find k (am_srT (am_own M))).map .ref
  | .ldc2_w k => (am_find k (am_clT (am_own M))).map .long
  | .getstatic k => (am_find k (am_stT (am_own M))).map .ref
  | _ => none
/-- loads: the local's number, its sort -/
def am_ld : Instr → Option (Nat × Nat)
  | .iload i => some (i, 0)
  | .iload_n i => some (i, 0)
  | .lload i => some (i, 1)
  | .lload_n i => some (i, 1)
  | .aload i => some (i, 2)
  | .aload_n i => some (i, 2)
  | _ => none
def am_sto : Instr → Option (Nat × Nat)
  | .istore i => some (i, 0)
  | .istore_n i => some (i, 0)
  | .lstore i => some (i, 1)
  | .lstore_n i => some (i, 1)
  | .astore i => some (i, 2)
  | .astore_n i => some (i, 2)
  | _ => none
/-- what looks at the operand stack alone -/
def am_pure : Instr → List Value → Option (List Value)
  | .iadd, .int y :: .int x :: st => some (.int (x + y) :: st)
  | .isub, .int y :: .int x :: st => some (.int (x - y) :: st)
  | .imul, .int y :: .int x :: st => some (.int (x * y) :: st)
  | .iand, .int y :: .int x :: st => some (.int (x &&& y) :: st)
  | .ior, .int y :: .int x :: st => some (.int (x ||| y) :: st)
  | .idiv, .int y :: .int x :: st => if y = 0 then none else some (.int (x / y) :: st)
  | .irem, .int y :: .int x :: st => if y = 0 then none else some (.int (x - x / y * y) :: st)
  | .ineg, .int x :: st => some (.int (-x) :: st)
  | .ishl, .int y :: .int x :: st => some (.int (x <<< (y &&& 31)) :: st)
  | .ishr, .int y :: .int x :: st => some (.int (x >>> (y &&& 31)) :: st)
  | .iushr, .int y :: .int x :: st => some (.int (x.toUInt32 >>> (y.toUInt32 &&& Int32.toUInt32 31)).toInt32 :: st)
  | .ladd, .long y :: .long x :: st => some (.long (x + y) :: st)
  | .lsub, .long y :: .long x :: st => some (.long (x - y) :: st)
  | .lmul, .long y :: .long x :: st => some (.long (x * y) :: st)
  | .land, .long y :: .long x :: st => some (.long (x &&& y) :: st)
  | .lor, .long y :: .long x :: st => some (.long (x ||| y) :: st)
  | .ldiv, .long y :: .long x :: st => if y = 0 then none else some (.long (x / y) :: st)
  | .lneg, .long x :: st => some (.long (-x) :: st)
  | .lshl, .int y :: .long x :: st => some (.long (x <<< (y.toInt64 &&& 63)) :: st)
  | .lshr, .int y :: .long x :: st => some (.long (x >>> (y.toInt64 &&& 63)) :: st)
  | .lcmp, .long y :: .long x :: st => some (.int (lg_cmp x y) :: st)
  | .i2l, .int x :: st => some (.long x.toInt64 :: st)
  | .l2i, .long x :: st => some (.int x.toInt32 :: st)
  | .i2b, .int x :: st => some (.int x.toInt8.toInt32 :: st)
  | .i2s, .int x :: st => some (.int x.toInt16.toInt32 :: st)
  | .dup, v :: st => if v.category = 1 then some (v :: v :: st) else none
  | .pop, v :: st => if v.category = 1 then some st else none
  | .dup2, v :: w :: st => if v.category = 1 ∧ w.category = 1 then some (v :: w :: v :: w :: st) else none
  | _, _ => none
def am_cmp : ClassFile.Cond → Int32 → Int32 → Bool
  | .eq, x, y => decide (x = y)
  | .ne, x, y => decide (¬ x = y)
  | .lt, x, y => decide (x < y)
  | .ge, x, y => decide (y ≤ x)
  | .gt, x, y => decide (y < x)
  | .le, x, y => decide (x ≤ y)
def am_to (pc : Nat) (off : Int) : Option Nat := if 0 ≤ (pc : Int) + off then some ((pc : Int) + off).toNat else none
/-- where a jump goes -/
def am_jump (pc : Nat) : Instr → List Value → Option (Nat × List Value)
  | .goto off, st => (am_to pc off).map (fun t => (t, st))
  | .ifCond c off, .int x :: st => (am_to pc off).map (fun t => (if am_cmp c x 0 then t else pc + 3, st))
  | .if_icmp c off, .int y :: .int x :: st => (am_to pc off).map (fun t => (if am_cmp c x y then t else pc + 3, st))
  | .ifnull off, .null :: st => (am_to pc off).map (fun t => (t, st))
  | .ifnull _, .ref _ :: st => some (pc + 3, st)
  | .ifnonnull off, .ref _ :: st => (am_to pc off).map (fun t => (t, st))
  | .ifnonnull _, .null :: st => some (pc + 3, st)
  | .tableswitch dflt lo hi offs, .int x :: st => if x.toInt < lo ∨ hi < x.toInt then (am_to pc dflt).map (fun t => (t, st)) else
      match offs[(x.toInt - lo).toNat]? with
      | some off => (am_to pc off).map (fun t => (t, st))
      | none => none
  | .lookupswitch dflt ps, .int x :: st => if (ps.toList.zip (ps.toList.drop 1)).all (fun (a, next) => a.1 < next.1) = true then (am_to pc (Op.lookupswitch.offset ps.toList dflt x.toInt)).map (fun t => (t, st)) else none
  | _, _ => none
def am_rv (r : Option Nat) : Value := va_rf r
/-- the library's max, min, abs -/
def am_math : Nat → List Value → Option (List Value)
  | 10, .int y :: .int x :: st => if (st.map fun v => v.category).sum ≤ 8 then some (.int (if x < y then y else x) :: st) else none
  | 11, .int y :: .int x :: st => if (st.map fun v => v.category).sum ≤ 8 then some (.int (if y < x then y else x) :: st) else none
  | 12, .int x :: st => if (st.map fun v => v.category).sum ≤ 8 then some (.int (if 0 ≤ x then x else 0 - x) :: st) else none
  | 13, .long y :: .long x :: st => if (st.map fun v => v.category).sum ≤ 8 then some (.long (if y < x then x else y) :: st) else none
  | 14, .long y :: .long x :: st => if (st.map fun v => v.category).sum ≤ 8 then some (.long (if y < x then y else x) :: st) else none
  | _, _ => none
/-- fields -/
def am_mem (M : am_M) (σ : am_S) : Instr → List Value → Option (List Value × am_S)
  | .getfield x, .ref a :: st => match am_find x (am_fldT (am_own M)) with
    | some (ci, k) => if (am_K σ a).1 = ci then match (am_fk ci)[k]? with
      | some 0 => some (.int (am_I σ a k) :: st, σ)
      | some 1 => some (.long (am_L σ a k) :: st, σ)
      | some 2 => some (am_rv (am_R σ a k) :: st, σ)
      | _ => none
      else none
    | none => none
  | .putfield x, .int v :: .ref a :: st => match am_find x (am_fldT (am_own M)) with
    | some (ci, k) => if (am_K σ a).1 = ci ∧ (am_fk ci)[k]? = some 0 ∧ am_fin ci k = false ∧ (ci = 8 ∧ (k = 30 ∨ k = 45) → v &&& 1 = v) then some (st, am_sI σ a k v) else
        if (am_K σ a).1 = ci ∧ (am_fk ci)[k]? = some 0 ∧ am_fin ci k = true ∧ (am_name M).name = "<init>" ∧ am_own M = ci ∧ ci = 4 then some (st, am_sI σ a k v) else none
    | none => none
  | .putfield x, .long v :: .ref a :: st => match am_find x (am_fldT (am_own M)) with
    | some (ci, k) => if (am_K σ a).1 = ci ∧ (am_fk ci)[k]? = some 1 ∧ am_fin ci k = false then some (st, am_sL σ a k v) else none
    | none => none
  | .putfield x, .ref v :: .ref a :: st => match am_find x (am_fldT (am_own M)) with
    | some (ci, k) => if (am_K σ a).1 = ci ∧ (am_fk ci)[k]? = some 2 ∧ am_fin ci k = true ∧ (am_name M).name = "<init>" ∧ am_own M = ci ∧ v < 1000000 then some (st, am_sR σ a k (some v)) else none
    | none => none
  | .iaload, .int i :: .ref a :: st => if ((am_K σ a).1 = 20 ∨ (am_K σ a).1 = 19) ∧ am_in i (am_K σ a).2 = true then some (.int (am_I σ a i.toNatClampNeg) :: st, σ) else none
  | .laload, .int i :: .ref a :: st => if (am_K σ a).1 = 21 ∧ am_in i (am_K σ a).2 = true then some (.long (am_L σ a i.toNatClampNeg) :: st, σ) else none
  | .baload, .int i :: .ref a :: st => if (am_K σ a).1 = 22 ∧ am_in i (am_K σ a).2 = true then some (.int (am_I σ a i.toNatClampNeg) :: st, σ) else none
  | .aaload, .int i :: .ref a :: st => if (23 ≤ (am_K σ a).1 ∧ (am_K σ a).1 ≤ 25) ∧ am_in i (am_K σ a).2 = true then some (am_rv (am_R σ a i.toNatClampNeg) :: st, σ) else none
  | .iastore, .int v :: .int i :: .ref a :: st => if (am_K σ a).1 = 20 ∧ am_in i (am_K σ a).2 = true then some (st, am_sI σ a i.toNatClampNeg v) else none
  | .lastore, .long v :: .int i :: .ref a :: st => if (am_K σ a).1 = 21 ∧ am_in i (am_K σ a).2 = true then some (st, am_sL σ a i.toNatClampNeg v) else none
  | .bastore, .int v :: .int i :: .ref a :: st => if (am_K σ a).1 = 22 ∧ am_in i (am_K σ a).2 = true then some (st, am_sI σ a i.toNatClampNeg (v &&& 1)) else none
  | .aastore, .ref v :: .int i :: .ref a :: st => if (23 ≤ (am_K σ a).1 ∧ (am_K σ a).1 ≤ 25) ∧ am_in i (am_K σ a).2 = true ∧ (am_K σ v).1 + 19 = (am_K σ a).1 then some (st, am_sR σ a i.toNatClampNeg (some v)) else none
  | .arraylength, .ref a :: st => if 19 ≤ (am_K σ a).1 ∧ (am_K σ a).1 ≤ 25 then some (.int (Int32.ofNat (am_K σ a).2) :: st, σ) else none
  | .new x, st => match am_find x (am_newT (am_own M)) with
    | some ci => if am_n σ < 1000000 then some (.ref (am_n σ) :: st, am_new σ ci 0 (am_fk ci).length) else none
    | none => none
  | .newarray t, .int n :: st => if ¬ n < 0 ∧ n.toNatClampNeg ≤ 1000 ∧ am_n σ < 1000000 then match t with
      | .int => some (.ref (am_n σ) :: st, am_new σ 20 n.toNatClampNeg n.toNatClampNeg)
      | .long => some (.ref (am_n σ) :: st, am_new σ 21 n.toNatClampNeg n.toNatClampNeg)
      | .boolean => some (.ref (am_n σ) :: st, am_new σ 22 n.toNatClampNeg n.toNatClampNeg)
      | _ => none
      else none
  | .anewarray x, .int n :: st => if ¬ n < 0 ∧ n.toNatClampNeg ≤ 1000 ∧ am_n σ < 1000000 then match am_find x (am_anewT (am_own M)) with
      | some kd => some (.ref (am_n σ) :: st, am_new σ kd n.toNatClampNeg n.toNatClampNeg)
      | none => none
      else none
  | .invokespecial x, .ref _ :: st => match am_find x (am_callT (am_own M)) with
    | some (3, _, _) => if (st.map fun v => v.category).sum ≤ 8 then some (st, σ) else none
    | _ => none
  | .invokevirtual x, .ref a :: st => match am_find x (am_callT (am_own M)) with
    | some (4, _, _) => if (am_K σ a).1 = 18 ∧ (st.map fun v => v.category).sum ≤ 8 then some (.int (Int32.ofNat (am_K σ a).2) :: st, σ) else none
    | _ => none
  | .invokevirtual x, .int i :: .ref a :: st => match am_find x (am_callT (am_own M)) with
    | some (5, _, _) => if (am_K σ a).1 = 18 ∧ am_in i (am_K σ a).2 = true ∧ (st.map fun v => v.category).sum ≤ 8 then some (.int (am_I σ a i.toNatClampNeg) :: st, σ) else none
    | _ => none
  | .invokestatic x, st => match am_find x (am_callT (am_own M)) with
    | some (kd, _, _) => if kd = 6 then match st with
      | .int n :: .int dp :: .ref b :: .int sp :: .ref a :: st => if ((am_K σ a).1 = 20 ∨ (am_K σ a).1 = 19) ∧ (am_K σ b).1 = 20 ∧ ¬ sp < 0 ∧ ¬ dp < 0 ∧ ¬ n < 0 ∧ sp.toNatClampNeg + n.toNatClampNeg ≤ (am_K σ a).2 ∧ dp.toNatClampNeg + n.toNatClampNeg ≤ (am_K σ b).2 ∧ (st.map fun v => v.category).sum ≤ 8
        then some (st, am_sA σ b (va_cpy (am_I σ a) (am_I σ b) sp.toNatClampNeg dp.toNatClampNeg n.toNatClampNeg)) else none
      | _ => none
      else (am_math kd st).map (fun st' => (st', σ))
    | none => none
  | _, _ => none
/-- one instruction that neither calls nor ends: the next counter, locals, operand stack, heap -/
def am_step (M : am_M) (pc : Nat) (ins : Instr) (len : Nat) (ls : am_Ls) (st : List Value) (σ : am_S) : Option (Nat × am_Ls × List Value × am_S) :=
  match am_cst M ins with
  | some v => some (pc + len, ls, v :: st, σ)
  | none => match am_ld ins with
  | some (i, t) => match am_get ls i with
    | some v => if am_ty t v = true then some (pc + len, ls, v :: st, σ) else none
    | none => none
  | none => match am_sto ins with
  | some (i, t) => match st with
    | v :: st' => if am_ty t v = true ∧ i + v.category ≤ am_maxL M then some (pc + len, am_set ls i v, st', σ) else none
    | [] => none
  | none => match am_pure ins st with
  | some st' => some (pc + len, ls, st', σ)
  | none => match am_jump pc ins st with
  | some (pc', st') => some (pc', ls, st', σ)
  | none => match ins with
  | .iinc i n => match am_get ls i with
    | some (.int x) => if i < am_maxL M then some (pc + len, am_set ls i (.int (x + Int32.ofInt n)), st, σ) else none
    | _ => none
  | ins => match am_mem M σ ins st with
    | some (st', σ') => some (pc + len, ls, st', σ')
    | none => none
/-- the method's end -/
def am_end (M : am_M) : Instr → List Value → Option (Option Value)
  | .ireturn, [.int v] => match am_ret M with
    | some ty => if narrow ty (.int v) = .int v then some (some (.int v)) else none
    | none => none
  | .lreturn, [.long v] => if am_ret M = some .long then some (some (.long v)) else none
  | .areturn, [.ref a] => match am_ret M with
    | some (.object _) => some (some (.ref a))
    | _ => none
  | .areturn, [.null] => match am_ret M with
    | some (.object _) => some (some .null)
    | _ => none
  | .return_, [] => if am_ret M = none then some none else none
  | _, _ => none
/-- 'throw new E("text")' begins here: which E -/
def am_thr (M : am_M) (pc : Nat) : Instr → Option Nat
  | .new ik => if am_own M = 7 ∧ am_hh M = [] then
      match decode (am_code M) (pc + 3), decode (am_code M) (pc + 4) with
      | .ok (.dup, 1), .ok (.ldc is, 2) => match decode (am_code M) (pc + 6), decode (am_code M) (pc + 9) with
        | .ok (.invokespecial ic, 3), .ok (.athrow, 1) => (am_thrT.find? (fun q => decide (q.1 = ik ∧ q.2.1 = is ∧ q.2.2.1 = ic))).map (fun q => q.2.2.2)
        | _, _ => none
      | .ok (.dup, 1), .ok (.ldc_w is, 3) => match decode (am_code M) (pc + 7), decode (am_code M) (pc + 10) with
        | .ok (.invokespecial ic, 3), .ok (.athrow, 1) => (am_thrT.find? (fun q => decide (q.1 = ik ∧ q.2.1 = is ∧ q.2.2.1 = ic))).map (fun q => q.2.2.2)
        | _, _ => none
      | _, _ => none
      else none
  | _ => none
/-- a call: the method, its arguments, what stays on the stack -/
def am_inv (M : am_M) (σ : am_S) (ins : Instr) (st : List Value) : Option (am_M × List Value × List Value) :=
  match (match ins with
    | .invokevirtual x => (am_find x (am_callT (am_own M))).map (fun q => (0, q))
    | .invokestatic x => (am_find x (am_callT (am_own M))).map (fun q => (1, q))
    | .invokespecial x => (am_find x (am_callT (am_own M))).map (fun q => (2, q))
    | _ => none) with
  | some (kd, kd', na, M') => if kd = kd' ∧ na ≤ st.length then
      if kd = 1 then (if ((st.drop na).map fun v => v.category).sum ≤ 8 ∧ (lg_sl (st.take na).reverse).length ≤ am_maxL M' then some (M', (st.take na).reverse, st.drop na) else none) else
      match st.drop na with
      | .ref b :: rest => if (kd = 2 ∨ (am_K σ b).1 = am_own M') ∧ (rest.map fun v => v.category).sum ≤ 8 ∧ (lg_sl (.ref b :: (st.take na).reverse)).length ≤ am_maxL M' then some (M', .ref b :: (st.take na).reverse, rest) else none
      | _ => none
      else none
  | none => none
/-- which row of the method's table takes the exception k thrown at pc: where to go on, which local it is put into -/
def am_row (M : am_M) (pc k : Nat) : List (Nat × Nat × Nat × Nat) → Option (Nat × Nat)
  | [] => none
  | (s, e, h, t) :: l => if s ≤ pc ∧ pc < e ∧ am_find t (am_catT (am_own M)) = some k then
      match decode (am_code M) h with
      | .ok (.astore_n i, 1) => if (i : Nat) < am_maxL M then some (h + 1, i) else none
      | .ok (.astore i, 2) => if i < am_maxL M then some (h + 2, i) else none
      | _ => none
      else if s ≤ pc ∧ pc < e ∧ (am_find t (am_catT (am_own M))).isSome = false then none else am_row M pc k l
def am_len : Instr → Nat
  | .bipush _ => 2
  | .sipush _ => 3
  | .ldc _ => 2
  | .ldc_w _ => 3
  | .ldc2_w _ => 3
  | .iload _ => 2
  | .lload _ => 2
  | .aload _ => 2
  | .istore _ => 2
  | .lstore _ => 2
  | .astore _ => 2
  | .iinc _ _ => 3
  | .getstatic _ => 3
  | .getfield _ => 3
  | .putfield _ => 3
  | .invokevirtual _ => 3
  | .invokestatic _ => 3
  | .invokespecial _ => 3
  | .new _ => 3
  | .newarray _ => 2
  | .anewarray _ => 3
  | .goto _ => 3
  | .ifCond _ _ => 3
  | .if_icmp _ _ => 3
  | .ifnull _ => 3
  | .ifnonnull _ => 3
  | _ => 1
def am_lok : Instr → Nat → Bool
  | .tableswitch _ _ _ _, _ => true
  | .lookupswitch _ _, _ => true
  | i, n => decide (n = am_len i)
/-- calls that may end by a throw -/
def am_xok (M : am_M) : Instr → Bool
  | .invokevirtual _ => true
  | .invokestatic _ => decide (am_own M = 7 ∨ am_own M = 9)
  | _ => false
/-- the run: fuel, depth, method, counter, locals, operand stack, heap; how it ends, and the heap behind it -/
def am_run : Nat → Nat → am_M → Nat → am_Ls → List Value → am_S → Option ((Option Value ⊕ Nat) × am_S)
  | 0, _, _, _, _, _, _ => none
  | n + 1, d, M, pc, ls, st, σ => match decode (am_code M) pc with
    | .error _ => none
    | .ok (ins, len) => if am_lok ins len = false then none else match am_end M ins st with
      | some v => some (.inl v, σ)
      | none => match am_thr M pc ins with
      | some k => if st.isEmpty = true then some (.inr k, am_tick σ) else none
      | none => match am_inv M σ ins st with
      | some (M', av, rest) => match d with
        | 0 => none
        | d' + 1 => match am_run n d' M' 0 (lv_args 0 av) [] σ with
          | none => none
          | some (.inl v, σ') => am_run n (d' + 1) M (pc + 3) ls (v.toList ++ rest) σ'
          | some (.inr k, σ') => if am_xok M ins = false then none else if am_hh M = [] then some (.inr k, σ') else match am_row M pc k (am_hh M) with
            | none => none
            | some (h, i) => am_run n (d' + 1) M h (am_drop ls i) [] σ'
      | none => match am_step M pc ins len ls st σ with
        | some (pc', ls', st', σ') => am_run n d M pc' ls' st' σ'
        | none => none
