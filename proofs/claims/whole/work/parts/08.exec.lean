/-! the steps of the small machine -/
abbrev xSt : Type := Nat × List Value × List Value × xM
def xcmp (c : ClassFile.Cond) (x y : Int32) : Bool := match c with
  | .eq => decide (x = y)
  | .ne => decide (¬ x = y)
  | .lt => decide (x < y)
  | .ge => decide (y ≤ x)
  | .gt => decide (y < x)
  | .le => decide (x ≤ y)
/-- a field's value -/
def xfg (t : Nat) (i : Int32) (j : Int64) (r : Option Nat) : Value := if t = 1 then .long j else if t = 2 then xrv r else .int i
/-- a field is written -/
def xfp (σ : xM) (a k t : Nat) (v : Value) : Option xM := match v with
  | .int x => if t = 0 then some (sI σ (up2 (mI σ) a k x)) else if t = 3 then (if x = 0 ∨ x = 1 then some (sI σ (up2 (mI σ) a k x)) else none) else none
  | .long x => if t = 1 then some (sJ σ (up2 (mJ σ) a k x)) else none
  | .ref b => if t = 2 then some (sR σ (up2 (mR σ) a k (some b))) else none
  | .null => if t = 2 then some (sR σ (up2 (mR σ) a k none)) else none
  | _ => none
def xinB (i : Int32) (n : Nat) : Bool := !(decide (i < 0)) && Nat.blt i.toNatClampNeg n
/-- stack room -/
def xsr (st : List Value) : Bool := Nat.ble ((st.map fun v => v.category).sum) 8
def xstep (d : Nat) (i : Instr) (rn : Nat) (ri : Int32) (rl : Int64) (pc : Nat) (ls st : List Value) (σ : xM) : Option xSt := match i with
  | .iconst _ => some (pc + 1, ls, .int ri :: st, σ)
  | .bipush _ => some (pc + 2, ls, .int ri :: st, σ)
  | .sipush _ => some (pc + 3, ls, .int ri :: st, σ)
  | .lconst _ => some (pc + 1, ls, .long rl :: st, σ)
  | .ldc _ => if rn < 1000 then some (pc + 2, ls, .int ri :: st, σ) else some (pc + 2, ls, .float (UInt32.ofNat (rn - 1000)) :: st, σ)
  | .ldc_w _ => if rn < 1000 then some (pc + 3, ls, .int ri :: st, σ) else some (pc + 3, ls, .float (UInt32.ofNat (rn - 1000)) :: st, σ)
  | .ldc2_w _ => some (pc + 3, ls, .long rl :: st, σ)
  | .iload_n n => match ls[n.val]? with
    | some (.int x) => some (pc + 1, ls, .int x :: st, σ)
    | _ => none
  | .iload n => match ls[n]? with
    | some (.int x) => some (pc + 2, ls, .int x :: st, σ)
    | _ => none
  | .lload_n n => match ls[n.val]?, ls[n.val + 1]? with
    | some (.long x), some (.retAddr 1) => some (pc + 1, ls, .long x :: st, σ)
    | _, _ => none
  | .lload n => match ls[n]?, ls[n + 1]? with
    | some (.long x), some (.retAddr 1) => some (pc + 2, ls, .long x :: st, σ)
    | _, _ => none
  | .aload_n n => match ls[n.val]? with
    | some (.ref a) => some (pc + 1, ls, .ref a :: st, σ)
    | some (.float a) => some (pc + 1, ls, .float a :: st, σ)
    | _ => none
  | .aload n => match ls[n]? with
    | some (.ref a) => some (pc + 2, ls, .ref a :: st, σ)
    | _ => none
  | .istore_n n => match st with
    | .int x :: r => if n.val < ls.length then some (pc + 1, ls.set n.val (.int x), r, σ) else none
    | _ => none
  | .istore n => match st with
    | .int x :: r => if n < ls.length then some (pc + 2, ls.set n (.int x), r, σ) else none
    | _ => none
  | .lstore_n n => match st with
    | .long x :: r => if n.val + 1 < ls.length then some (pc + 1, (ls.set n.val (.long x)).set (n.val + 1) (.retAddr 1), r, σ) else none
    | _ => none
  | .lstore n => match st with
    | .long x :: r => if n + 1 < ls.length then some (pc + 2, (ls.set n (.long x)).set (n + 1) (.retAddr 1), r, σ) else none
    | _ => none
  | .astore_n n => match st with
    | .ref x :: r => if n.val < ls.length then some (pc + 1, ls.set n.val (.ref x), r, σ) else none
    | _ => none
  | .iinc n _ => match ls[n]? with
    | some (.int x) => some (pc + 3, ls.set n (.int (x + ri)), st, σ)
    | _ => none
  | .iadd => match st with
    | .int y :: .int x :: r => some (pc + 1, ls, .int (x + y) :: r, σ)
    | _ => none
  | .isub => match st with
    | .int y :: .int x :: r => some (pc + 1, ls, .int (x - y) :: r, σ)
    | _ => none
  | .imul => match st with
    | .int y :: .int x :: r => some (pc + 1, ls, .int (x * y) :: r, σ)
    | _ => none
  | .iand => match st with
    | .int y :: .int x :: r => some (pc + 1, ls, .int (x &&& y) :: r, σ)
    | _ => none
  | .ior => match st with
    | .int y :: .int x :: r => some (pc + 1, ls, .int (x ||| y) :: r, σ)
    | _ => none
  | .ixor => match st with
    | .int y :: .int x :: r => some (pc + 1, ls, .int (x ^^^ y) :: r, σ)
    | _ => none
  | .ishl => match st with
    | .int y :: .int x :: r => some (pc + 1, ls, .int (x <<< (y &&& 31)) :: r, σ)
    | _ => none
  | .ishr => match st with
    | .int y :: .int x :: r => some (pc + 1, ls, .int (x >>> (y &&& 31)) :: r, σ)
    | _ => none
  | .iushr => match st with
    | .int y :: .int x :: r => some (pc + 1, ls, .int (x.toUInt32 >>> (y.toUInt32 &&& Int32.toUInt32 31)).toInt32 :: r, σ)
    | _ => none
  | .idiv => match st with
    | .int y :: .int x :: r => if y = 0 then none else some (pc + 1, ls, .int (x / y) :: r, σ)
    | _ => none
  | .irem => match st with
    | .int y :: .int x :: r => if y = 0 then none else some (pc + 1, ls, .int (x - x / y * y) :: r, σ)
    | _ => none
  | .ineg => match st with
    | .int x :: r => some (pc + 1, ls, .int (-x) :: r, σ)
    | _ => none
  | .ladd => match st with
    | .long y :: .long x :: r => some (pc + 1, ls, .long (x + y) :: r, σ)
    | _ => none
  | .lmul => match st with
    | .long y :: .long x :: r => some (pc + 1, ls, .long (x * y) :: r, σ)
    | _ => none
  | .lor => match st with
    | .long y :: .long x :: r => some (pc + 1, ls, .long (x ||| y) :: r, σ)
    | _ => none
  | .ldiv => match st with
    | .long y :: .long x :: r => if y = 0 then none else some (pc + 1, ls, .long (x / y) :: r, σ)
    | _ => none
  | .lrem => match st with
    | .long y :: .long x :: r => if y = 0 then none else some (pc + 1, ls, .long (x - x / y * y) :: r, σ)
    | _ => none
  | .lshl => match st with
    | .int y :: .long x :: r => some (pc + 1, ls, .long (x <<< (y.toInt64 &&& 63)) :: r, σ)
    | _ => none
  | .lcmp => match st with
    | .long y :: .long x :: r => some (pc + 1, ls, .int (lg_cmp x y) :: r, σ)
    | _ => none
  | .i2l => match st with
    | .int x :: r => some (pc + 1, ls, .long x.toInt64 :: r, σ)
    | _ => none
  | .l2i => match st with
    | .long x :: r => some (pc + 1, ls, .int x.toInt32 :: r, σ)
    | _ => none
  | .i2b => match st with
    | .int x :: r => some (pc + 1, ls, .int x.toInt8.toInt32 :: r, σ)
    | _ => none
  | .dup => match st with
    | v :: r => if v.category = 1 then some (pc + 1, ls, v :: v :: r, σ) else none
    | _ => none
  | .pop => match st with
    | v :: r => if v.category = 1 then some (pc + 1, ls, r, σ) else none
    | _ => none
  | .dup2 => match st with
    | v :: w :: r => if v.category = 1 ∧ w.category = 1 then some (pc + 1, ls, v :: w :: v :: w :: r, σ) else none
    | _ => none
  | .ifCond c _ => match st with
    | .int x :: r => some (bif xcmp c x 0 then rn else pc + 3, ls, r, σ)
    | _ => none
  | .if_icmp c _ => match st with
    | .int y :: .int x :: r => some (bif xcmp c x y then rn else pc + 3, ls, r, σ)
    | _ => none
  | .ifnull _ => match st with
    | .null :: r => some (rn, ls, r, σ)
    | .ref _ :: r => some (pc + 3, ls, r, σ)
    | _ => none
  | .ifnonnull _ => match st with
    | .null :: r => some (pc + 3, ls, r, σ)
    | .ref _ :: r => some (rn, ls, r, σ)
    | _ => none
  | .goto _ => some (rn, ls, st, σ)
  | .tableswitch df lo hi offs => match st with
    | .int x :: r => if x.toInt < lo ∨ hi < x.toInt then some (((pc : Int) + df).toNat, ls, r, σ) else match offs[(x.toInt - lo).toNat]? with
      | some off => some (((pc : Int) + off).toNat, ls, r, σ)
      | none => none
    | _ => none
  | .getfield _ => match st with
    | .ref a :: r => bif Nat.blt a (mN σ) && Nat.beq (mK σ a) (rn / 100) then some (pc + 3, ls, xfg (xT (rn / 100) (rn % 100)) (mI σ a (rn % 100)) (mJ σ a (rn % 100)) (mR σ a (rn % 100)) :: r, σ) else none
    | _ => none
  | .putfield _ => match st with
    | v :: .ref a :: r => bif Nat.blt a (mN σ) && Nat.beq (mK σ a) (rn / 100) then (match xfp σ a (rn % 100) (xT (rn / 100) (rn % 100)) v with
      | some σ' => some (pc + 3, ls, r, σ')
      | none => none) else none
    | _ => none
  | .iaload => match st with
    | .int j :: .ref a :: r => bif Nat.blt a (mN σ) && Nat.beq (mK σ a) 11 && xinB j (mL σ a) then some (pc + 1, ls, .int (mI σ a j.toNatClampNeg) :: r, σ) else none
    | _ => none
  | .baload => match st with
    | .int j :: .ref a :: r => bif Nat.blt a (mN σ) && Nat.beq (mK σ a) 10 && xinB j (mL σ a) then some (pc + 1, ls, .int (mI σ a j.toNatClampNeg) :: r, σ) else none
    | _ => none
  | .laload => match st with
    | .int j :: .ref a :: r => bif Nat.blt a (mN σ) && Nat.beq (mK σ a) 12 && xinB j (mL σ a) then some (pc + 1, ls, .long (mJ σ a j.toNatClampNeg) :: r, σ) else none
    | _ => none
  | .aaload => match st with
    | .int j :: .ref a :: r => bif Nat.blt a (mN σ) && Nat.beq (mK σ a) 13 && xinB j (mL σ a) then some (pc + 1, ls, xrv (mR σ a j.toNatClampNeg) :: r, σ) else none
    | _ => none
  | .iastore => match st with
    | .int x :: .int j :: .ref a :: r => bif Nat.blt a (mN σ) && Nat.beq (mK σ a) 11 && xinB j (mL σ a) then some (pc + 1, ls, r, sI σ (up2 (mI σ) a j.toNatClampNeg x)) else none
    | _ => none
  | .bastore => match st with
    | .int x :: .int j :: .ref a :: r => bif Nat.blt a (mN σ) && Nat.beq (mK σ a) 10 && xinB j (mL σ a) then some (pc + 1, ls, r, sI σ (up2 (mI σ) a j.toNatClampNeg (x.toInt8.toInt32))) else none
    | _ => none
  | .lastore => match st with
    | .long x :: .int j :: .ref a :: r => bif Nat.blt a (mN σ) && Nat.beq (mK σ a) 12 && xinB j (mL σ a) then some (pc + 1, ls, r, sJ σ (up2 (mJ σ) a j.toNatClampNeg x)) else none
    | _ => none
  | .aastore => match st with
    | .ref b :: .int j :: .ref a :: r => bif Nat.blt a (mN σ) && Nat.beq (mK σ a) 13 && xinB j (mL σ a) && Nat.blt b (mN σ) && Nat.beq (mK σ b) 4 then some (pc + 1, ls, r, sR σ (up2 (mR σ) a j.toNatClampNeg (some b))) else none
    | _ => none
  | .new _ => some (pc + 3, ls, .ref (mN σ) :: st, sNew σ rn 0 (xNF rn))
  | .newarray _ => match st with
    | .int n :: r => bif xinB n 2000 then some (pc + 2, ls, .ref (mN σ) :: r, sNew σ rn n.toNatClampNeg n.toNatClampNeg) else none
    | _ => none
  | .anewarray _ => match st with
    | .int n :: r => bif xinB n 2000 then some (pc + 3, ls, .ref (mN σ) :: r, sNew σ 13 n.toNatClampNeg n.toNatClampNeg) else none
    | _ => none
  | .invokespecial _ => bif Nat.beq rn 9000 && Nat.blt 0 d then (match st with
    | .ref _ :: r => bif xsr r then some (pc + 3, ls, r, σ) else none
    | _ => none) else none
  | .invokestatic _ => bif Nat.blt 0 d then (bif Nat.beq rn 9001 then (match st with
    | .int y :: .int x :: r => bif xsr r then some (pc + 3, ls, .int (if y < x then y else x) :: r, σ) else none
    | _ => none) else bif Nat.beq rn 9002 then (match st with
    | .int y :: .int x :: r => bif xsr r then some (pc + 3, ls, .int (if y > x then y else x) :: r, σ) else none
    | _ => none) else bif Nat.beq rn 9003 then (match st with
    | .int n :: .int dp :: .ref a :: .int sp :: .ref b :: r => bif xsr r && Nat.blt a (mN σ) && Nat.beq (mK σ a) 11 && Nat.blt b (mN σ) && Nat.beq (mK σ b) 11 && !(decide (sp < 0)) && !(decide (dp < 0)) && !(decide (n < 0)) && Nat.ble (sp.toNatClampNeg + n.toNatClampNeg) (mL σ b) && Nat.ble (dp.toNatClampNeg + n.toNatClampNeg) (mL σ a) then
        some (pc + 3, ls, r, sI σ (va_up (mI σ) a (va_cpy (mI σ b) (mI σ a) sp.toNatClampNeg dp.toNatClampNeg n.toNatClampNeg))) else none
    | _ => none) else none) else none
  | _ => none
/-- a return -/
def xret (i : Instr) (t : Option FieldType) (st : List Value) : Option (Option Value) := match i, t, st with
  | .ireturn, some .int, [.int x] => some (some (.int x))
  | .ireturn, some .boolean, [.int x] => if x = 0 ∨ x = 1 then some (some (.int x)) else none
  | .lreturn, some .long, [.long x] => some (some (.long x))
  | .areturn, some (.object _), [.ref a] => some (some (.ref a))
  | .return_, none, [] => some none
  | _, _, _ => none
/-- a call: its arguments, what stays on the stack -/
def xargs (i : Instr) (k : Nat) (st : List Value) (σ : xM) : Option (List Value × List Value) := match i with
  | .invokevirtual _ => match (st.take (xE k).2.2.2.2.2.1).reverse with
    | .ref a :: as => bif Nat.blt a (mN σ) && Nat.beq (mK σ a) (xE k).2.2.2.2.1 && Nat.beq (as.length + 1) (xE k).2.2.2.2.2.1 then some (.ref a :: as, st.drop (xE k).2.2.2.2.2.1) else none
    | _ => none
  | .invokespecial _ => match (st.take (xE k).2.2.2.2.2.1).reverse with
    | .ref a :: as => bif Nat.beq (as.length + 1) (xE k).2.2.2.2.2.1 then some (.ref a :: as, st.drop (xE k).2.2.2.2.2.1) else none
    | _ => none
  | .invokestatic _ => bif Nat.beq ((st.take (xE k).2.2.2.2.2.1).length) (xE k).2.2.2.2.2.1 then some ((st.take (xE k).2.2.2.2.2.1).reverse, st.drop (xE k).2.2.2.2.2.1) else none
  | _ => none
