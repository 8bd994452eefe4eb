/-! runs as a judgement; the heap's operations as partial functions; a row for each -/
/-- the texts' numbers: 'city' .. 'give' as LastAskedModel packs them -/
def xpk (b : UInt32) : Option Int64 := [108185, 278194, 7657651, 542723566, 463922, 1682596, 8554052, 759252, 3124, 17171758, 631476, 773206180, 150065650, 8243, 140467, 52, 239301][b.toNat]?
def xprim (d k : Nat) (as : List Value) (σ : xM) : Option (Option Value × xM) := bif Nat.beq k 164 && Nat.ble 5 d then (match as with
  | [.float b] => (xpk b).map (fun v => (some (.long v), σ))
  | _ => none) else none
def Rn (d k pc : Nat) (ls st : List Value) (σ : xM) (y : Option Value × xM) : Prop := ∃ n, xex xprim n d k pc ls st σ = some y
theorem xex_more : ∀ (n m d k pc : Nat) (ls st : List Value) (σ : xM) (y : Option Value × xM), xex xprim n d k pc ls st σ = some y → xex xprim (n + m) d k pc ls st σ = some y := by
  intro n
  induction n with
  | zero => intro m d k pc ls st σ y h; cases h
  | succ n ih =>
    intro m d k pc ls st σ y h
    rw [show n + 1 + m = (n + m) + 1 by omega]
    unfold xex at h ⊢
    split at h
    · cases h
    · rename_i en hcode
      try rw [hcode]
      split at h
      · rename_i hs
        try simp only [hs]
        exact ih m _ _ _ _ _ _ _ h
      · rename_i hs
        try simp only [hs]
        split at h
        · rename_i hr
          try simp only [hr]
          exact h
        · rename_i hr
          try simp only [hr]
          split at h
          · cases h
          · rename_i ar har
            try simp only [har]
            split at h
            · cases h
            · rename_i d'
              rw [Bool.cond_eq_ite] at h ⊢
              split at h
              · rename_i hc
                rw [if_pos hc]
                split at h
                · rename_i y1 hy1
                  cases hp : xprim d' en.2.2.2.1 ar.1 σ with
                  | some y0 =>
                    rw [hp] at hy1
                    cases hy1
                    exact ih m _ _ _ _ _ _ _ h
                  | none =>
                    rw [hp] at hy1
                    simp only [ih m _ _ _ _ _ _ _ hy1]
                    exact ih m _ _ _ _ _ _ _ h
                · cases h
              · cases h
def xsteps (d k : Nat) : Nat → Nat → List Value → List Value → xM → Option xSt
  | 0, pc, ls, st, σ => some (pc, ls, st, σ)
  | n + 1, pc, ls, st, σ => match xcode k pc with
    | none => none
    | some en => match xstep d en.2.1 en.2.2.2.1 en.2.2.2.2.1 en.2.2.2.2.2 pc ls st σ with
      | some x => xsteps d k n x.1 x.2.1 x.2.2.1 x.2.2.2
      | none => none
section RN
variable {d k pc : Nat} {ls st : List Value} {σ : xM} {y : Option Value × xM}
theorem rn_step {en : xCe} {pc' : Nat} {ls' st' : List Value} {σ' : xM} (hc : xcode k pc = some en) (hs : xstep d en.2.1 en.2.2.2.1 en.2.2.2.2.1 en.2.2.2.2.2 pc ls st σ = some (pc', ls', st', σ')) (h : Rn d k pc' ls' st' σ' y) : Rn d k pc ls st σ y := by
  obtain ⟨n, h⟩ := h
  refine ⟨n + 1, ?_⟩
  unfold xex
  rw [hc]
  simp only [hs]
  exact h
theorem rn_steps : ∀ (n : Nat) {pc : Nat} {ls st : List Value} {σ : xM} (pc' : Nat) (ls' st' : List Value) {σ' : xM}, xsteps d k n pc ls st σ = some (pc', ls', st', σ') → Rn d k pc' ls' st' σ' y → Rn d k pc ls st σ y
  | 0, pc, ls, st, σ, pc', ls', st', σ', hs, h => by
    cases hs
    exact h
  | n + 1, pc, ls, st, σ, pc', ls', st', σ', hs, h => by
    unfold xsteps at hs
    split at hs
    · cases hs
    · rename_i en hc
      split at hs
      · rename_i x hx
        exact rn_step hc hx (rn_steps n pc' ls' st' hs h)
      · cases hs
theorem rn_ret {en : xCe} {r : Option Value} (hc : xcode k pc = some en) (hs : xstep d en.2.1 en.2.2.2.1 en.2.2.2.2.1 en.2.2.2.2.2 pc ls st σ = none) (hr : xret en.2.1 (xE k).2.2.2.1 st = some r) : Rn d k pc ls st σ (r, σ) := by
  refine ⟨1, ?_⟩
  unfold xex
  rw [hc]
  simp only [hs, hr]
theorem rn_call0 {en : xCe} {as rest : List Value} {r1 : Option Value} {σ1 : xM} (hc : xcode k pc = some en) (hs : xstep (d + 1) en.2.1 en.2.2.2.1 en.2.2.2.2.1 en.2.2.2.2.2 pc ls st σ = none) (hr : xret en.2.1 (xE k).2.2.2.1 st = none) (ha : xargs en.2.1 en.2.2.2.1 st σ = some (as, rest))
    (hok : (xsr rest && Nat.ble ((xflat as).length) (xE en.2.2.2.1).2.2.1 && Nat.blt en.2.2.2.1 274) = true) (hcall : (∃ v, xprim d en.2.2.2.1 as σ = some v ∧ v = (r1, σ1)) ∨ (xprim d en.2.2.2.1 as σ = none ∧ Rn d en.2.2.2.1 0 (xent as (xE en.2.2.2.1).2.2.1) [] σ (r1, σ1))) (h : Rn (d + 1) k (pc + 3) ls (r1.toList ++ rest) σ1 y) : Rn (d + 1) k pc ls st σ y := by
  obtain ⟨n, h⟩ := h
  rcases hcall with ⟨v, hp, rfl⟩ | ⟨hp, n2, h2⟩
  · refine ⟨n + 1, ?_⟩
    unfold xex
    rw [hc]
    simp only [hs, hr, ha, hok, cond_true, hp]
    exact h
  · refine ⟨n + n2 + 1, ?_⟩
    unfold xex
    rw [hc]
    simp only [hs, hr, ha, hok, cond_true, hp]
    have h3 := xex_more n2 n _ _ _ _ _ _ _ h2
    rw [Nat.add_comm n2 n] at h3
    simp only [h3]
    exact xex_more n n2 _ _ _ _ _ _ _ h
/-- an object of class c -/
def cO (σ : xM) (a c : Nat) : Option Unit := bif Nat.blt a (mN σ) && Nat.beq (mK σ a) c then some () else none
theorem cO_ok {σ : xM} {a c : Nat} {u : Unit} (h : cO σ a c = some u) : (Nat.blt a (mN σ) && Nat.beq (mK σ a) c) = true := by
  unfold cO at h
  cases hb : (Nat.blt a (mN σ) && Nat.beq (mK σ a) c) with
  | true => rfl
  | false => rw [hb] at h; cases h
def gI (σ : xM) (a c k : Nat) : Option Int32 := bif Nat.blt a (mN σ) && Nat.beq (mK σ a) c then some (mI σ a k) else none
def gJ (σ : xM) (a c k : Nat) : Option Int64 := bif Nat.blt a (mN σ) && Nat.beq (mK σ a) c then some (mJ σ a k) else none
/-- a reference that may be null -/
def gQ (σ : xM) (a c k : Nat) : Option (Option Nat) := bif Nat.blt a (mN σ) && Nat.beq (mK σ a) c then some (mR σ a k) else none
def gR (σ : xM) (a c k : Nat) : Option Nat := bif Nat.blt a (mN σ) && Nat.beq (mK σ a) c then mR σ a k else none
def pI (σ : xM) (a c k : Nat) (x : Int32) : Option xM := bif Nat.blt a (mN σ) && Nat.beq (mK σ a) c then some (sI σ (up2 (mI σ) a k x)) else none
def pZ (σ : xM) (a c k : Nat) (x : Int32) : Option xM := bif Nat.blt a (mN σ) && Nat.beq (mK σ a) c && decide (x = 0 ∨ x = 1) then some (sI σ (up2 (mI σ) a k x)) else none
def pJ (σ : xM) (a c k : Nat) (x : Int64) : Option xM := bif Nat.blt a (mN σ) && Nat.beq (mK σ a) c then some (sJ σ (up2 (mJ σ) a k x)) else none
def pR (σ : xM) (a c k : Nat) (b : Nat) : Option xM := bif Nat.blt a (mN σ) && Nat.beq (mK σ a) c then some (sR σ (up2 (mR σ) a k (some b))) else none
def aI (σ : xM) (a : Nat) (j : Int32) : Option Int32 := bif Nat.blt a (mN σ) && Nat.beq (mK σ a) 11 && xinB j (mL σ a) then some (mI σ a j.toNatClampNeg) else none
def aB (σ : xM) (a : Nat) (j : Int32) : Option Int32 := bif Nat.blt a (mN σ) && Nat.beq (mK σ a) 10 && xinB j (mL σ a) then some (mI σ a j.toNatClampNeg) else none
def aJ (σ : xM) (a : Nat) (j : Int32) : Option Int64 := bif Nat.blt a (mN σ) && Nat.beq (mK σ a) 12 && xinB j (mL σ a) then some (mJ σ a j.toNatClampNeg) else none
def aR (σ : xM) (a : Nat) (j : Int32) : Option Nat := bif Nat.blt a (mN σ) && Nat.beq (mK σ a) 13 && xinB j (mL σ a) then mR σ a j.toNatClampNeg else none
def tI (σ : xM) (a : Nat) (j : Int32) (x : Int32) : Option xM := bif Nat.blt a (mN σ) && Nat.beq (mK σ a) 11 && xinB j (mL σ a) then some (sI σ (up2 (mI σ) a j.toNatClampNeg x)) else none
def tB (σ : xM) (a : Nat) (j : Int32) (x : Int32) : Option xM := bif Nat.blt a (mN σ) && Nat.beq (mK σ a) 10 && xinB j (mL σ a) then some (sI σ (up2 (mI σ) a j.toNatClampNeg (x.toInt8.toInt32))) else none
def tJ (σ : xM) (a : Nat) (j : Int32) (x : Int64) : Option xM := bif Nat.blt a (mN σ) && Nat.beq (mK σ a) 12 && xinB j (mL σ a) then some (sJ σ (up2 (mJ σ) a j.toNatClampNeg x)) else none
def tR (σ : xM) (a : Nat) (j : Int32) (b : Nat) : Option xM := bif Nat.blt a (mN σ) && Nat.beq (mK σ a) 13 && xinB j (mL σ a) && Nat.blt b (mN σ) && Nat.beq (mK σ b) 4 then some (sR σ (up2 (mR σ) a j.toNatClampNeg (some b))) else none
def nA (σ : xM) (c : Nat) (n : Int32) : Option xM := bif xinB n 2000 then some (sNew σ c n.toNatClampNeg n.toNatClampNeg) else none
def cp (σ : xM) (b : Nat) (sp : Int32) (a : Nat) (dp n : Int32) : Option xM := bif Nat.blt a (mN σ) && Nat.beq (mK σ a) 11 && Nat.blt b (mN σ) && Nat.beq (mK σ b) 11 && !(decide (sp < 0)) && !(decide (dp < 0)) && !(decide (n < 0)) && Nat.ble (sp.toNatClampNeg + n.toNatClampNeg) (mL σ b) && Nat.ble (dp.toNatClampNeg + n.toNatClampNeg) (mL σ a) then some (sI σ (va_up (mI σ) a (va_cpy (mI σ b) (mI σ a) sp.toNatClampNeg dp.toNatClampNeg n.toNatClampNeg))) else none
def dI (x y : Int32) : Option Int32 := if y = 0 then none else some (x / y)
def rI (x y : Int32) : Option Int32 := if y = 0 then none else some (x - x / y * y)
def dJ (x y : Int64) : Option Int64 := if y = 0 then none else some (x / y)
def rJ (x y : Int64) : Option Int64 := if y = 0 then none else some (x - x / y * y)
/-- a boolean is answered -/
def rZ (x : Int32) (σ : xM) : Option (Int32 × xM) := if x = 0 ∨ x = 1 then some (x, σ) else none
theorem cb {α : Type} {b : Bool} {x : Option α} {v : α} (h : (bif b then x else none) = some v) : b = true ∧ x = some v := by
  cases b
  · cases h
  · exact ⟨rfl, h⟩
theorem rn_gI {a c f p0 ix len rn : Nat} {ri : Int32} {rl : Int64} {x : Int32} (hc : xcode k pc = some (p0, .getfield ix, len, rn, ri, rl)) (h1 : rn = c * 100 + f) (h2 : (rn / 100 = c ∧ rn % 100 = f) ∧ (xT c f = 0 ∨ xT c f = 3)) (hv : gI σ a c f = some x) (h : Rn d k (pc + 3) ls (.int x :: st) σ y) : Rn d k pc ls (.ref a :: st) σ y := by
  obtain ⟨hb, hx⟩ := cb hv
  cases hx
  refine rn_step hc ?_ h
  obtain ⟨⟨e1, e2⟩, e3⟩ := h2
  simp only [xstep, e1, e2, hb, cond_true]
  rcases e3 with e3 | e3 <;> rw [e3] <;> rfl
theorem rn_gJ {a c f p0 ix len rn : Nat} {ri : Int32} {rl : Int64} {x : Int64} (hc : xcode k pc = some (p0, .getfield ix, len, rn, ri, rl)) (h1 : rn = c * 100 + f) (h2 : (rn / 100 = c ∧ rn % 100 = f) ∧ xT c f = 1) (hv : gJ σ a c f = some x) (h : Rn d k (pc + 3) ls (.long x :: st) σ y) : Rn d k pc ls (.ref a :: st) σ y := by
  obtain ⟨hb, hx⟩ := cb hv
  cases hx
  refine rn_step hc ?_ h
  obtain ⟨⟨e1, e2⟩, e3⟩ := h2
  simp only [xstep, e1, e2, hb, cond_true]
  rw [e3]
  rfl
theorem rn_gQ {a c f p0 ix len rn : Nat} {ri : Int32} {rl : Int64} {x : Option Nat} (hc : xcode k pc = some (p0, .getfield ix, len, rn, ri, rl)) (h1 : rn = c * 100 + f) (h2 : (rn / 100 = c ∧ rn % 100 = f) ∧ xT c f = 2) (hv : gQ σ a c f = some x) (h : Rn d k (pc + 3) ls (xrv x :: st) σ y) : Rn d k pc ls (.ref a :: st) σ y := by
  obtain ⟨hb, hx⟩ := cb hv
  cases hx
  refine rn_step hc ?_ h
  obtain ⟨⟨e1, e2⟩, e3⟩ := h2
  simp only [xstep, e1, e2, hb, cond_true]
  rw [e3]
  rfl
theorem rn_gR {a c f p0 ix len rn x : Nat} {ri : Int32} {rl : Int64} (hc : xcode k pc = some (p0, .getfield ix, len, rn, ri, rl)) (h1 : rn = c * 100 + f) (h2 : (rn / 100 = c ∧ rn % 100 = f) ∧ xT c f = 2) (hv : gR σ a c f = some x) (h : Rn d k (pc + 3) ls (.ref x :: st) σ y) : Rn d k pc ls (.ref a :: st) σ y := by
  obtain ⟨hb, hx⟩ := cb hv
  refine rn_gQ (x := some x) hc h1 h2 ?_ h
  unfold gQ
  rw [hb, hx]
  rfl
theorem rn_put {a c f t p0 ix len rn : Nat} {ri : Int32} {rl : Int64} {v : Value} {σ1 : xM} (hc : xcode k pc = some (p0, .putfield ix, len, rn, ri, rl)) (h2 : (rn / 100 = c ∧ rn % 100 = f) ∧ xT c f = t) (hb : (Nat.blt a (mN σ) && Nat.beq (mK σ a) c) = true) (hx : xfp σ a f t v = some σ1) (h : Rn d k (pc + 3) ls st σ1 y) : Rn d k pc ls (v :: .ref a :: st) σ y := by
  refine rn_step hc ?_ h
  obtain ⟨⟨e1, e2⟩, e3⟩ := h2
  simp only [xstep, e1, e2, hb, cond_true, e3, hx]
theorem rn_pI {a c f p0 ix len rn : Nat} {ri x : Int32} {rl : Int64} {σ1 : xM} (hc : xcode k pc = some (p0, .putfield ix, len, rn, ri, rl)) (h1 : rn = c * 100 + f) (h2 : (rn / 100 = c ∧ rn % 100 = f) ∧ xT c f = 0) (hv : pI σ a c f x = some σ1) (h : Rn d k (pc + 3) ls st σ1 y) : Rn d k pc ls (.int x :: .ref a :: st) σ y := by
  obtain ⟨hb, hx⟩ := cb hv
  exact rn_put hc h2 hb hx h
theorem rn_pZ {a c f p0 ix len rn : Nat} {ri x : Int32} {rl : Int64} {σ1 : xM} (hc : xcode k pc = some (p0, .putfield ix, len, rn, ri, rl)) (h1 : rn = c * 100 + f) (h2 : (rn / 100 = c ∧ rn % 100 = f) ∧ xT c f = 3) (hv : pZ σ a c f x = some σ1) (h : Rn d k (pc + 3) ls st σ1 y) : Rn d k pc ls (.int x :: .ref a :: st) σ y := by
  obtain ⟨hb, hx⟩ := cb hv
  rw [Bool.and_eq_true] at hb
  refine rn_put hc h2 hb.1 ?_ h
  simp only [xfp]
  rw [if_neg (by decide), if_pos trivial, if_pos (of_decide_eq_true hb.2)]
  exact hx
theorem rn_pJ {a c f p0 ix len rn : Nat} {ri : Int32} {rl x : Int64} {σ1 : xM} (hc : xcode k pc = some (p0, .putfield ix, len, rn, ri, rl)) (h1 : rn = c * 100 + f) (h2 : (rn / 100 = c ∧ rn % 100 = f) ∧ xT c f = 1) (hv : pJ σ a c f x = some σ1) (h : Rn d k (pc + 3) ls st σ1 y) : Rn d k pc ls (.long x :: .ref a :: st) σ y := by
  obtain ⟨hb, hx⟩ := cb hv
  exact rn_put hc h2 hb hx h
theorem rn_pR {a c f b p0 ix len rn : Nat} {ri : Int32} {rl : Int64} {σ1 : xM} (hc : xcode k pc = some (p0, .putfield ix, len, rn, ri, rl)) (h1 : rn = c * 100 + f) (h2 : (rn / 100 = c ∧ rn % 100 = f) ∧ xT c f = 2) (hv : pR σ a c f b = some σ1) (h : Rn d k (pc + 3) ls st σ1 y) : Rn d k pc ls (.ref b :: .ref a :: st) σ y := by
  obtain ⟨hb, hx⟩ := cb hv
  exact rn_put hc h2 hb hx h
theorem rn_aI {a p0 len rn : Nat} {j ri x : Int32} {rl : Int64} (hc : xcode k pc = some (p0, .iaload, len, rn, ri, rl)) (hv : aI σ a j = some x) (h : Rn d k (pc + 1) ls (.int x :: st) σ y) : Rn d k pc ls (.int j :: .ref a :: st) σ y := by
  obtain ⟨hb, hx⟩ := cb hv
  cases hx
  refine rn_step hc ?_ h
  simp only [xstep, hb, cond_true]
theorem rn_aB {a p0 len rn : Nat} {j ri x : Int32} {rl : Int64} (hc : xcode k pc = some (p0, .baload, len, rn, ri, rl)) (hv : aB σ a j = some x) (h : Rn d k (pc + 1) ls (.int x :: st) σ y) : Rn d k pc ls (.int j :: .ref a :: st) σ y := by
  obtain ⟨hb, hx⟩ := cb hv
  cases hx
  refine rn_step hc ?_ h
  simp only [xstep, hb, cond_true]
theorem rn_aJ {a p0 len rn : Nat} {j ri : Int32} {rl x : Int64} (hc : xcode k pc = some (p0, .laload, len, rn, ri, rl)) (hv : aJ σ a j = some x) (h : Rn d k (pc + 1) ls (.long x :: st) σ y) : Rn d k pc ls (.int j :: .ref a :: st) σ y := by
  obtain ⟨hb, hx⟩ := cb hv
  cases hx
  refine rn_step hc ?_ h
  simp only [xstep, hb, cond_true]
theorem rn_aR {a p0 len rn x : Nat} {j ri : Int32} {rl : Int64} (hc : xcode k pc = some (p0, .aaload, len, rn, ri, rl)) (hv : aR σ a j = some x) (h : Rn d k (pc + 1) ls (.ref x :: st) σ y) : Rn d k pc ls (.int j :: .ref a :: st) σ y := by
  obtain ⟨hb, hx⟩ := cb hv
  refine rn_step hc ?_ h
  simp only [xstep, hb, cond_true, hx]
  rfl
theorem rn_tI {a p0 len rn : Nat} {j ri x : Int32} {rl : Int64} {σ1 : xM} (hc : xcode k pc = some (p0, .iastore, len, rn, ri, rl)) (hv : tI σ a j x = some σ1) (h : Rn d k (pc + 1) ls st σ1 y) : Rn d k pc ls (.int x :: .int j :: .ref a :: st) σ y := by
  obtain ⟨hb, hx⟩ := cb hv
  cases hx
  refine rn_step hc ?_ h
  simp only [xstep, hb, cond_true]
theorem rn_tB {a p0 len rn : Nat} {j ri x : Int32} {rl : Int64} {σ1 : xM} (hc : xcode k pc = some (p0, .bastore, len, rn, ri, rl)) (hv : tB σ a j x = some σ1) (h : Rn d k (pc + 1) ls st σ1 y) : Rn d k pc ls (.int x :: .int j :: .ref a :: st) σ y := by
  obtain ⟨hb, hx⟩ := cb hv
  cases hx
  refine rn_step hc ?_ h
  simp only [xstep, hb, cond_true]
theorem rn_tJ {a p0 len rn : Nat} {j ri : Int32} {rl x : Int64} {σ1 : xM} (hc : xcode k pc = some (p0, .lastore, len, rn, ri, rl)) (hv : tJ σ a j x = some σ1) (h : Rn d k (pc + 1) ls st σ1 y) : Rn d k pc ls (.long x :: .int j :: .ref a :: st) σ y := by
  obtain ⟨hb, hx⟩ := cb hv
  cases hx
  refine rn_step hc ?_ h
  simp only [xstep, hb, cond_true]
theorem rn_tR {a b p0 len rn : Nat} {j ri : Int32} {rl : Int64} {σ1 : xM} (hc : xcode k pc = some (p0, .aastore, len, rn, ri, rl)) (hv : tR σ a j b = some σ1) (h : Rn d k (pc + 1) ls st σ1 y) : Rn d k pc ls (.ref b :: .int j :: .ref a :: st) σ y := by
  obtain ⟨hb, hx⟩ := cb hv
  cases hx
  refine rn_step hc ?_ h
  simp only [xstep, hb, cond_true]
theorem rn_nA {t : ArrayType} {p0 len rn : Nat} {n ri : Int32} {rl : Int64} {σ1 : xM} (hc : xcode k pc = some (p0, .newarray t, len, rn, ri, rl)) (hv : nA σ rn n = some σ1) (h : Rn d k (pc + 2) ls (.ref (mN σ) :: st) σ1 y) : Rn d k pc ls (.int n :: st) σ y := by
  obtain ⟨hb, hx⟩ := cb hv
  cases hx
  refine rn_step hc ?_ h
  simp only [xstep, hb, cond_true]
theorem rn_nR {p0 len rn ix : Nat} {n ri : Int32} {rl : Int64} {σ1 : xM} (hc : xcode k pc = some (p0, .anewarray ix, len, rn, ri, rl)) (hv : nA σ 13 n = some σ1) (h : Rn d k (pc + 3) ls (.ref (mN σ) :: st) σ1 y) : Rn d k pc ls (.int n :: st) σ y := by
  obtain ⟨hb, hx⟩ := cb hv
  cases hx
  refine rn_step hc ?_ h
  simp only [xstep, hb, cond_true]
theorem rn_cp {a b p0 len ix : Nat} {sp dp n ri : Int32} {rl : Int64} {σ1 : xM} (hc : xcode k pc = some (p0, .invokestatic ix, len, 9003, ri, rl)) (hs : xsr st = true) (hv : cp σ b sp a dp n = some σ1) (h : Rn (d + 1) k (pc + 3) ls st σ1 y) : Rn (d + 1) k pc ls (.int n :: .int dp :: .ref a :: .int sp :: .ref b :: st) σ y := by
  obtain ⟨hb, hx⟩ := cb hv
  cases hx
  refine rn_step hc ?_ h
  simp only [Bool.and_eq_true] at hb
  simp only [xstep, show Nat.blt 0 (d + 1) = true from rfl, show Nat.beq 9003 9001 = false from rfl, show Nat.beq 9003 9002 = false from rfl, show Nat.beq 9003 9003 = true from rfl, cond_true, cond_false]
  rw [show (xsr st && Nat.blt a (mN σ) && Nat.beq (mK σ a) 11 && Nat.blt b (mN σ) && Nat.beq (mK σ b) 11 && !(decide (sp < 0)) && !(decide (dp < 0)) && !(decide (n < 0)) && Nat.ble (sp.toNatClampNeg + n.toNatClampNeg) (mL σ b) && Nat.ble (dp.toNatClampNeg + n.toNatClampNeg) (mL σ a)) = true by
    simp only [Bool.and_eq_true]
    obtain ⟨⟨⟨⟨⟨⟨⟨⟨c1, c2⟩, c3⟩, c4⟩, c5⟩, c6⟩, c7⟩, c8⟩, c9⟩ := hb
    exact ⟨⟨⟨⟨⟨⟨⟨⟨⟨hs, c1⟩, c2⟩, c3⟩, c4⟩, c5⟩, c6⟩, c7⟩, c8⟩, c9⟩]
  rfl
theorem rn_dI {p0 len rn : Nat} {ri x x2 v : Int32} {rl : Int64} (hc : xcode k pc = some (p0, .idiv, len, rn, ri, rl)) (hv : dI x x2 = some v) (h : Rn d k (pc + 1) ls (.int v :: st) σ y) : Rn d k pc ls (.int x2 :: .int x :: st) σ y := by
  unfold dI at hv
  split at hv
  · cases hv
  · rename_i hne
    cases hv
    exact rn_step hc (by simp only [xstep]; rw [if_neg hne]) h
theorem rn_rI {p0 len rn : Nat} {ri x x2 v : Int32} {rl : Int64} (hc : xcode k pc = some (p0, .irem, len, rn, ri, rl)) (hv : rI x x2 = some v) (h : Rn d k (pc + 1) ls (.int v :: st) σ y) : Rn d k pc ls (.int x2 :: .int x :: st) σ y := by
  unfold rI at hv
  split at hv
  · cases hv
  · rename_i hne
    cases hv
    exact rn_step hc (by simp only [xstep]; rw [if_neg hne]) h
theorem rn_dJ {p0 len rn : Nat} {ri : Int32} {rl x x2 v : Int64} (hc : xcode k pc = some (p0, .ldiv, len, rn, ri, rl)) (hv : dJ x x2 = some v) (h : Rn d k (pc + 1) ls (.long v :: st) σ y) : Rn d k pc ls (.long x2 :: .long x :: st) σ y := by
  unfold dJ at hv
  split at hv
  · cases hv
  · rename_i hne
    cases hv
    exact rn_step hc (by simp only [xstep]; rw [if_neg hne]) h
theorem rn_rJ {p0 len rn : Nat} {ri : Int32} {rl x x2 v : Int64} (hc : xcode k pc = some (p0, .lrem, len, rn, ri, rl)) (hv : rJ x x2 = some v) (h : Rn d k (pc + 1) ls (.long v :: st) σ y) : Rn d k pc ls (.long x2 :: .long x :: st) σ y := by
  unfold rJ at hv
  split at hv
  · cases hv
  · rename_i hne
    cases hv
    exact rn_step hc (by simp only [xstep]; rw [if_neg hne]) h
/-- two roads: 'c' is the condition under which the branch is taken -/
theorem rn_br {en : xCe} {c : Prop} {t : Nat} {st' : List Value} {b : Bool} (hc : xcode k pc = some en) (hs : xstep d en.2.1 en.2.2.2.1 en.2.2.2.2.1 en.2.2.2.2.2 pc ls st σ = some (bif b then t else pc + 3, ls, st', σ)) (hb : b = true ↔ c) (hT : c → Rn d k t ls st' σ y) (hF : ¬ c → Rn d k (pc + 3) ls st' σ y) : Rn d k pc ls st σ y := by
  cases b with
  | true => exact rn_step hc hs (hT (hb.mp rfl))
  | false => exact rn_step hc hs (hF (fun h => by have := hb.mpr h; cases this))
theorem rn_null {en : xCe} {q : Option Nat} (hc : xcode k pc = some en) (h1 : q = none → ∀ z, z = Value.null → Rn d k pc ls (z :: st) σ y) (h2 : ∀ b, q = some b → ∀ z, z = Value.ref b → Rn d k pc ls (z :: st) σ y) : Rn d k pc ls (xrv q :: st) σ y := by
  cases q with
  | none => exact h1 rfl _ rfl
  | some b => exact h2 b rfl _ rfl
def nO (σ : xM) (c : Nat) : Option xM := some (sNew σ c 0 (xNF c))
theorem rn_nO {p0 ix len rn : Nat} {ri : Int32} {rl : Int64} {σ1 : xM} (hc : xcode k pc = some (p0, .new ix, len, rn, ri, rl)) (hv : nO σ rn = some σ1) (h : Rn d k (pc + 3) ls (.ref (mN σ) :: st) σ1 y) : Rn d k pc ls st σ y := by
  cases hv
  exact rn_step hc rfl h
theorem rn_retZ {p0 len rn : Nat} {ri x : Int32} {rl : Int64} {w : Int32 × xM} (hc : xcode k pc = some (p0, .ireturn, len, rn, ri, rl)) (ht : (xE k).2.2.2.1 = some .boolean) (h : rZ x σ = some w) : Rn d k pc ls [.int x] σ (some (.int w.1), w.2) := by
  unfold rZ at h
  split at h
  · rename_i hz
    cases h
    refine rn_ret hc rfl ?_
    simp only [ht, xret, if_pos hz]
  · cases h
theorem xout {x : Int32} {N : Nat} (h : ∀ j : Nat, j ≤ N → ¬ x = nI j) : x.toInt < 0 ∨ (N : Int) < x.toInt := by
  rcases Int.lt_or_le x.toInt 0 with h0 | h0
  · exact Or.inl h0
  · rcases Int.lt_or_le (N : Int) x.toInt with h1 | h1
    · exact Or.inr h1
    · exfalso
      have hx : ¬ x < 0 := by
        rw [Int32.lt_iff_toInt_lt]
        simpa using h0
      obtain ⟨j, hj, rfl⟩ := nI_of hx
      rw [nI_toInt hj] at h1
      exact h j (by omega) rfl
theorem rn_tbl {p0 len rn t : Nat} {ri x : Int32} {rl : Int64} {df lo hi : Int} {offs : Array Int} (hc : xcode k pc = some (p0, .tableswitch df lo hi offs, len, rn, ri, rl)) (ht : ((pc : Int) + df).toNat = t) (hx : x.toInt < lo ∨ hi < x.toInt) (h : Rn d k t ls st σ y) : Rn d k pc ls (.int x :: st) σ y := by
  subst ht
  refine rn_step hc ?_ h
  simp only [xstep, if_pos hx]
theorem x_take (args rest : List Value) (v : Value) : (args.reverse ++ v :: rest).take (args.length + 1) = args.reverse ++ [v] ∧ (args.reverse ++ v :: rest).drop (args.length + 1) = rest := by
  constructor
  · rw [List.take_append, List.take_of_length_le (by simp)]
    simp
  · rw [List.drop_append]
    simp
theorem x_takeS (args rest : List Value) : (args.reverse ++ rest).take args.length = args.reverse ∧ (args.reverse ++ rest).drop args.length = rest := by
  constructor
  · rw [List.take_append, List.take_of_length_le (by simp)]
    simp
  · rw [List.drop_append]
    simp
theorem xprim_no {rn : Nat} {as : List Value} (hp : Nat.beq rn 164 = false) : xprim d rn as σ = none := by
  unfold xprim
  rw [hp]
  rfl
theorem rn_callV {p0 ix len rn a c : Nat} {ri : Int32} {rl : Int64} (args : List Value) {rest : List Value} {r1 : Option Value} {σ1 : xM} {u : Unit} (hc : xcode k pc = some (p0, .invokevirtual ix, len, rn, ri, rl)) (hst : st = args.reverse ++ .ref a :: rest) (hE : (xE rn).2.2.2.2.2.1 = args.length + 1 ∧ (xE rn).2.2.2.2.1 = c) (hO : cO σ a c = some u)
    (hok : (xsr rest && Nat.ble ((xflat (.ref a :: args)).length) (xE rn).2.2.1 && Nat.blt rn 274) = true) (hp : Nat.beq rn 164 = false) (hcall : Rn d rn 0 (xent (.ref a :: args) (xE rn).2.2.1) [] σ (r1, σ1)) (h : Rn (d + 1) k (pc + 3) ls (r1.toList ++ rest) σ1 y) : Rn (d + 1) k pc ls st σ y := by
  subst hst
  obtain ⟨t1, t2⟩ := x_take args rest (.ref a)
  refine rn_call0 hc rfl rfl ?_ hok (Or.inr ⟨xprim_no hp, hcall⟩) h
  simp only [xargs, hE.1, t1, t2, List.reverse_append, List.reverse_reverse, List.reverse_cons, List.reverse_nil, List.nil_append, List.cons_append, hE.2]
  rw [cO_ok hO, show Nat.beq (args.length + 1) (args.length + 1) = true by rw [Nat.beq_eq]]
  rfl
theorem rn_callI {p0 ix len rn a : Nat} {ri : Int32} {rl : Int64} (args : List Value) {rest : List Value} {r1 : Option Value} {σ1 : xM} (hc : xcode k pc = some (p0, .invokespecial ix, len, rn, ri, rl)) (hst : st = args.reverse ++ .ref a :: rest) (hE : (xE rn).2.2.2.2.2.1 = args.length + 1) (hn : Nat.beq rn 9000 = false)
    (hok : (xsr rest && Nat.ble ((xflat (.ref a :: args)).length) (xE rn).2.2.1 && Nat.blt rn 274) = true) (hp : Nat.beq rn 164 = false) (hcall : Rn d rn 0 (xent (.ref a :: args) (xE rn).2.2.1) [] σ (r1, σ1)) (h : Rn (d + 1) k (pc + 3) ls (r1.toList ++ rest) σ1 y) : Rn (d + 1) k pc ls st σ y := by
  subst hst
  obtain ⟨t1, t2⟩ := x_take args rest (.ref a)
  refine rn_call0 hc (by simp only [xstep, hn]; rfl) rfl ?_ hok (Or.inr ⟨xprim_no hp, hcall⟩) h
  simp only [xargs, hE, t1, t2, List.reverse_append, List.reverse_reverse, List.reverse_cons, List.reverse_nil, List.nil_append, List.cons_append]
  rw [show Nat.beq (args.length + 1) (args.length + 1) = true by rw [Nat.beq_eq]]
  rfl
theorem rn_callS {p0 ix len rn : Nat} {ri : Int32} {rl : Int64} (args : List Value) {rest : List Value} {r1 : Option Value} {σ1 : xM} (hc : xcode k pc = some (p0, .invokestatic ix, len, rn, ri, rl)) (hst : st = args.reverse ++ rest) (hE : (xE rn).2.2.2.2.2.1 = args.length) (hn : Nat.beq rn 9001 = false ∧ Nat.beq rn 9002 = false ∧ Nat.beq rn 9003 = false)
    (hok : (xsr rest && Nat.ble ((xflat args).length) (xE rn).2.2.1 && Nat.blt rn 274) = true) (hp : Nat.beq rn 164 = false) (hcall : Rn d rn 0 (xent args (xE rn).2.2.1) [] σ (r1, σ1)) (h : Rn (d + 1) k (pc + 3) ls (r1.toList ++ rest) σ1 y) : Rn (d + 1) k pc ls st σ y := by
  subst hst
  obtain ⟨t1, t2⟩ := x_takeS args rest
  refine rn_call0 hc (by simp only [xstep, hn.1, hn.2.1, hn.2.2]; rfl) rfl ?_ hok (Or.inr ⟨xprim_no hp, hcall⟩) h
  simp only [xargs, hE, t1, t2, List.reverse_reverse, List.length_reverse]
  rw [show Nat.beq args.length args.length = true by rw [Nat.beq_eq]]
  rfl
theorem rn_callP {p0 ix len : Nat} {ri : Int32} {rl v : Int64} {b : UInt32} {rest : List Value} (hc : xcode k pc = some (p0, .invokestatic ix, len, 164, ri, rl)) (hv : xpk b = some v) (hok : xsr rest = true) (h : Rn (d + 6) k (pc + 3) ls (.long v :: rest) σ y) : Rn (d + 6) k pc ls (.float b :: rest) σ y := by
  refine rn_call0 (d := d + 5) (as := [.float b]) (rest := rest) (r1 := some (.long v)) (σ1 := σ) hc rfl rfl rfl ?_ (Or.inl ⟨_, ?_, rfl⟩) h
  · rw [hok]
    rfl
  · unfold xprim
    rw [show (Nat.beq 164 164 && Nat.ble 5 (d + 5)) = true by
      rw [Bool.and_eq_true]
      exact ⟨rfl, Nat.ble_eq.mpr (by omega)⟩]
    simp only [cond_true, hv, Option.map_some]
end RN
