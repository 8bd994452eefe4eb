/-! the small machine's steps and runs over the linked code -/
def xlen (i : Instr) : Nat := match i with
  | .bipush _ => 2
  | .sipush _ => 3
  | .ldc _ => 2
  | .ldc_w _ => 3
  | .ldc2_w _ => 3
  | .iload _ => 2
  | .lload _ => 2
  | .aload _ => 2
  | .istore _ => 2
  | .lstore _ => 2
  | .astore _ => 2
  | .iinc _ _ => 3
  | .ifCond _ _ => 3
  | .if_icmp _ _ => 3
  | .ifnull _ => 3
  | .ifnonnull _ => 3
  | .goto _ => 3
  | .getfield _ => 3
  | .putfield _ => 3
  | .invokevirtual _ => 3
  | .invokespecial _ => 3
  | .invokestatic _ => 3
  | .new _ => 3
  | .newarray _ => 2
  | .anewarray _ => 3
  | .tableswitch _ _ _ _ => 0
  | _ => 1
/-- what a linked instruction says is what the class files say; o: its class, ini: whether its method is a constructor -/
def xm3 (L : List (Nat × Nat × Nat)) (o ix rn : Nat) : Bool := L.any (fun e => Nat.beq e.1 o && Nat.beq e.2.1 ix && Nat.beq e.2.2 rn)
def xm2 (L : List (Nat × Nat)) (o ix : Nat) : Bool := L.any (fun e => Nat.beq e.1 o && Nat.beq e.2 ix)
theorem xm3_in {L : List (Nat × Nat × Nat)} {o ix rn : Nat} (h : xm3 L o ix rn = true) : (o, ix, rn) ∈ L := by
  obtain ⟨e, he, h2⟩ := List.any_eq_true.mp h
  simp only [Bool.and_eq_true, Nat.beq_eq] at h2
  obtain ⟨⟨h3, h4⟩, h5⟩ := h2
  rw [← h3, ← h4, ← h5]
  exact he
theorem xm2_in {L : List (Nat × Nat)} {o ix : Nat} (h : xm2 L o ix = true) : (o, ix) ∈ L := by
  obtain ⟨e, he, h2⟩ := List.any_eq_true.mp h
  simp only [Bool.and_eq_true, Nat.beq_eq] at h2
  rw [← h2.1, ← h2.2]
  exact he
def xokI (o : Nat) (ini : Bool) (pc : Nat) (i : Instr) (rn : Nat) (ri : Int32) (rl : Int64) : Bool := match i with
  | .iconst n => decide (Int32.ofInt n = ri)
  | .bipush n => decide ((Int8.ofInt n).toInt32 = ri)
  | .sipush n => decide ((Int16.ofInt n).toInt32 = ri)
  | .lconst n => decide (Int64.ofNat n.val = rl)
  | .ldc ix => if rn < 1000 then decide ((o, ix, ri) ∈ xKI) else xm3 xKS o ix (rn - 1000)
  | .ldc_w ix => if rn < 1000 then decide ((o, ix, ri) ∈ xKI) else xm3 xKS o ix (rn - 1000)
  | .ldc2_w ix => decide ((o, ix, rl) ∈ xKL)
  | .iinc _ n => decide (Int32.ofInt n = ri)
  | .ifCond _ off => decide ((pc : Int) + off = (rn : Int))
  | .if_icmp _ off => decide ((pc : Int) + off = (rn : Int))
  | .goto off => decide ((pc : Int) + off = (rn : Int))
  | .ifnull off => decide ((pc : Int) + off = (rn : Int))
  | .ifnonnull off => decide ((pc : Int) + off = (rn : Int))
  | .getfield ix => Nat.blt (rn / 100) 10 && Nat.blt (rn % 100) (xNF (rn / 100)) && (xm3 xFL o ix rn || xm3 xFN o ix rn)
  | .putfield ix => Nat.blt (rn / 100) 10 && Nat.blt (rn % 100) (xNF (rn / 100)) && ((!((xkC (rn / 100)).2.1 (rn % 100)).2.2.2 && (xm3 xFL o ix rn || xm3 xFN o ix rn)) || (((xkC (rn / 100)).2.1 (rn % 100)).2.2.2 && ini && Nat.beq (rn / 100) o && xm3 xFL o ix rn))
  | .invokevirtual ix => Nat.blt rn 274 && !(xCal.getD rn (false, false, 0)).1 && !(xCal.getD rn (false, false, 0)).2.1 && Nat.blt (xCal.getD rn (false, false, 0)).2.2 10 && (xm3 xVL o ix rn || xm3 xVN o ix rn)
  | .invokestatic ix => bif Nat.beq rn 9001 then xm2 xMI o ix else bif Nat.beq rn 9002 then xm2 xMA o ix else bif Nat.beq rn 9003 then xm2 xAL o ix else
      Nat.blt rn 274 && (xCal.getD rn (false, false, 0)).1 && (xm3 xVL o ix rn || xm3 xVN o ix rn)
  | .invokespecial ix => bif Nat.beq rn 9000 then xm2 xOL o ix else
      Nat.blt rn 274 && !(xCal.getD rn (false, false, 0)).1 && (xCal.getD rn (false, false, 0)).2.1 && (xm3 xVL o ix rn || xm3 xVN o ix rn)
  | .new ix => Nat.blt rn 10 && xm3 xCK o ix rn
  | .newarray t => match t with
    | .byte => Nat.beq rn 10
    | .int => Nat.beq rn 11
    | .long => Nat.beq rn 12
    | _ => false
  | .anewarray ix => Nat.beq rn 13 && xm3 xCK o ix 4
  | .tableswitch df _ _ offs => decide (0 ≤ (pc : Int) + df) && offs.toList.all (fun x => decide (0 ≤ (pc : Int) + x))
  | _ => true
def xokE (m : xMe) (e : xCe) : Bool := decide (decode m.2.1 e.1 = .ok (e.2.1, e.2.2.1)) && (xlen e.2.1 == 0 || xlen e.2.1 == e.2.2.1) && xokI m.2.2.2.2.1 (decide (m.1.name = "<init>")) e.1 e.2.1 e.2.2.2.1 e.2.2.2.2.1 e.2.2.2.2.2
def xfind : List xCe → Nat → Option xCe
  | [], _ => none
  | e :: r, pc => bif Nat.beq e.1 pc then some e else xfind r pc
def xcode (k pc : Nat) : Option xCe := xfind (xcs.getD k []) pc
