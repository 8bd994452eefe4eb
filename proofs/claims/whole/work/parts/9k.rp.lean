/-! A RUN UP TO A PLACE, as a judgement: its rows -/
theorem xpx_more {t : Nat} : ∀ (n m d k pc : Nat) (ls st : List Value) (σ : xM) (y : List Value × List Value × xM), xpx xprim t n d k pc ls st σ = some y → xpx xprim t (n + m) d k pc ls st σ = some y := by
  intro n
  induction n with
  | zero => intro m d k pc ls st σ y h; cases h
  | succ n ih =>
    intro m d k pc ls st σ y h
    rw [show n + 1 + m = (n + m) + 1 by omega]
    unfold xpx at h ⊢
    rw [Bool.cond_eq_ite] at h ⊢
    split at h
    · rename_i ht
      rw [if_pos ht]
      exact h
    · rename_i ht
      rw [if_neg ht]
      split at h
      · cases h
      · rename_i en hcode
        try rw [hcode]
        split at h
        · rename_i hs
          try simp only [hs]
          exact ih m _ _ _ _ _ _ _ h
        · rename_i hs
          try simp only [hs]
          split at h
          · cases h
          · rename_i hr
            try simp only [hr]
            split at h
            · cases h
            · rename_i ar har
              try simp only [har]
              split at h
              · cases h
              · rename_i d'
                rw [Bool.cond_eq_ite] at h ⊢
                split at h
                · rename_i hc
                  rw [if_pos hc]
                  split at h
                  · rename_i y1 hy1
                    cases hp : xprim d' en.2.2.2.1 ar.1 σ with
                    | some y0 =>
                      rw [hp] at hy1
                      cases hy1
                      exact ih m _ _ _ _ _ _ _ h
                    | none =>
                      rw [hp] at hy1
                      simp only [xex_more n m _ _ _ _ _ _ _ hy1]
                      exact ih m _ _ _ _ _ _ _ h
                  · cases h
                · cases h
def Rp (t d k pc : Nat) (ls st : List Value) (σ : xM) (y : List Value × List Value × xM) : Prop := ∃ n, xpx xprim t n d k pc ls st σ = some y
def xstT (t d k : Nat) : Nat → Nat → List Value → List Value → xM → Option xSt
  | 0, pc, ls, st, σ => some (pc, ls, st, σ)
  | n + 1, pc, ls, st, σ => bif Nat.beq pc t then none else match xcodL k pc with
    | none => none
    | some en => match xstep d en.2.1 en.2.2.2.1 en.2.2.2.2.1 en.2.2.2.2.2 pc ls st σ with
      | some x => xstT t d k n x.1 x.2.1 x.2.2.1 x.2.2.2
      | none => none
section RP
variable {t d k pc : Nat} {ls st : List Value} {σ : xM} {y : List Value × List Value × xM}
theorem rp_end : Rp t d k t ls st σ (ls, st, σ) := ⟨1, by
  unfold xpx
  rw [show Nat.beq t t = true by rw [Nat.beq_eq]]
  rfl⟩
theorem rp_step {en : xCe} {pc' : Nat} {ls' st' : List Value} {σ' : xM} (ht : Nat.beq pc t = false) (hc : xcodL k pc = some en) (hs : xstep d en.2.1 en.2.2.2.1 en.2.2.2.2.1 en.2.2.2.2.2 pc ls st σ = some (pc', ls', st', σ')) (h : Rp t d k pc' ls' st' σ' y) : Rp t d k pc ls st σ y := by
  obtain ⟨n, h⟩ := h
  refine ⟨n + 1, ?_⟩
  unfold xpx
  rw [ht, hc]
  simp only [hs, cond_false]
  exact h
theorem rp_steps : ∀ (n : Nat) {pc : Nat} {ls st : List Value} {σ : xM} (pc' : Nat) (ls' st' : List Value) {σ' : xM}, xstT t d k n pc ls st σ = some (pc', ls', st', σ') → Rp t d k pc' ls' st' σ' y → Rp t d k pc ls st σ y
  | 0, pc, ls, st, σ, pc', ls', st', σ', hs, h => by
    cases hs
    exact h
  | n + 1, pc, ls, st, σ, pc', ls', st', σ', hs, h => by
    unfold xstT at hs
    rw [Bool.cond_eq_ite] at hs
    split at hs
    · cases hs
    · rename_i ht
      split at hs
      · cases hs
      · rename_i en hc
        split at hs
        · rename_i x hx
          exact rp_step (Bool.eq_false_iff.mpr ht) hc hx (rp_steps n pc' ls' st' hs h)
        · cases hs
theorem rp_br {en : xCe} {c : Prop} {q : Nat} {st' : List Value} {b : Bool} (ht : Nat.beq pc t = false) (hc : xcodL k pc = some en) (hs : xstep d en.2.1 en.2.2.2.1 en.2.2.2.2.1 en.2.2.2.2.2 pc ls st σ = some (bif b then q else pc + 3, ls, st', σ)) (hb : b = true ↔ c) (hT : c → Rp t d k q ls st' σ y) (hF : ¬ c → Rp t d k (pc + 3) ls st' σ y) : Rp t d k pc ls st σ y := by
  cases b with
  | true => exact rp_step ht hc hs (hT (hb.mp rfl))
  | false => exact rp_step ht hc hs (hF (fun h => by have := hb.mpr h; cases this))
theorem rp_aI {a p0 len rn : Nat} {j ri x : Int32} {rl : Int64} (ht : Nat.beq pc t = false) (hc : xcodL k pc = some (p0, .iaload, len, rn, ri, rl)) (hv : aI σ a j = some x) (h : Rp t d k (pc + 1) ls (.int x :: st) σ y) : Rp t d k pc ls (.int j :: .ref a :: st) σ y := by
  obtain ⟨hb, hx⟩ := cb hv
  cases hx
  refine rp_step ht hc ?_ h
  simp only [xstep, hb, cond_true]
theorem rp_call0 {en : xCe} {as rest : List Value} {r1 : Option Value} {σ1 : xM} (ht : Nat.beq pc t = false) (hc : xcodL k pc = some en) (hs : xstep (d + 1) en.2.1 en.2.2.2.1 en.2.2.2.2.1 en.2.2.2.2.2 pc ls st σ = none) (hr : xret en.2.1 (xE k).2.2.2.1 st = none) (ha : xargs en.2.1 en.2.2.2.1 st σ = some (as, rest))
    (hok : (xsr rest && Nat.ble ((xflat as).length) (xE en.2.2.2.1).2.2.1 && Nat.blt en.2.2.2.1 274) = true) (hcall : xprim d en.2.2.2.1 as σ = none ∧ Rn d en.2.2.2.1 0 (xent as (xE en.2.2.2.1).2.2.1) [] σ (r1, σ1)) (h : Rp t (d + 1) k (pc + 3) ls (r1.toList ++ rest) σ1 y) : Rp t (d + 1) k pc ls st σ y := by
  obtain ⟨n, h⟩ := h
  obtain ⟨hp, n2, h2⟩ := hcall
  refine ⟨n + n2 + 1, ?_⟩
  unfold xpx
  rw [ht, hc]
  simp only [hs, hr, ha, hok, cond_true, cond_false, hp]
  have h3 := xex_more n2 n _ _ _ _ _ _ _ h2
  rw [Nat.add_comm n2 n] at h3
  simp only [h3]
  exact xpx_more n n2 _ _ _ _ _ _ _ h
theorem rp_callV {p0 ix len rn a c : Nat} {ri : Int32} {rl : Int64} (args : List Value) {rest : List Value} {r1 : Option Value} {σ1 : xM} {u : Unit} (ht : Nat.beq pc t = false) (hc : xcodL k pc = some (p0, .invokevirtual ix, len, rn, ri, rl)) (hst : st = args.reverse ++ .ref a :: rest) (hE : (xE rn).2.2.2.2.2.1 = args.length + 1 ∧ (xE rn).2.2.2.2.1 = c) (hO : cO σ a c = some u)
    (hok : (xsr rest && Nat.ble ((xflat (.ref a :: args)).length) (xE rn).2.2.1 && Nat.blt rn 274) = true) (hp : Nat.beq rn 164 = false) (hcall : Rn d rn 0 (xent (.ref a :: args) (xE rn).2.2.1) [] σ (r1, σ1)) (h : Rp t (d + 1) k (pc + 3) ls (r1.toList ++ rest) σ1 y) : Rp t (d + 1) k pc ls st σ y := by
  subst hst
  obtain ⟨t1, t2⟩ := x_take args rest (.ref a)
  refine rp_call0 ht hc rfl rfl ?_ hok ⟨xprim_no hp, hcall⟩ h
  simp only [xargs, hE.1, t1, t2, List.reverse_append, List.reverse_reverse, List.reverse_cons, List.reverse_nil, List.nil_append, List.cons_append, hE.2]
  rw [cO_ok hO, show Nat.beq (args.length + 1) (args.length + 1) = true by rw [Nat.beq_eq]]
  rfl
end RP
