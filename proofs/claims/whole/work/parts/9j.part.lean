/-! A RUN UP TO A PLACE: for a method that may throw there -/
/-- led's code, up to where it throws -/
def xc_led : List xCe := [(0, .aload_n 0, 1, 0, 0, 0), (1, .invokevirtual 141, 3, 129, 0, 0), (4, .pop, 1, 0, 0, 0), (5, .iload_n 1, 1, 0, 0, 0), (6, .istore_n 2, 1, 0, 0, 0), (7, .iconst 0, 1, 0, 0, 0), (8, .istore_n 3, 1, 0, 0, 0), (9, .iload_n 3, 1, 0, 0, 0), (10, .bipush 6, 2, 0, 6, 0), (12, .if_icmp .ge 43, 3, 55, 0, 0), (15, .aload_n 0, 1, 0, 0, 0), (16, .getfield 26, 3, 702, 0, 0), (19, .iload_n 3, 1, 0, 0, 0), (20, .invokevirtual 115, 3, 48, 0, 0), (23, .ifCond .eq 26, 3, 49, 0, 0), (26, .aload_n 0, 1, 0, 0, 0), (27, .getfield 43, 3, 705, 0, 0), (30, .getfield 145, 3, 600, 0, 0), (33, .iload_n 3, 1, 0, 0, 0), (34, .iaload, 1, 0, 0, 0), (35, .bipush (-2), 2, 0, (-2), 0), (37, .if_icmp .ne 12, 3, 49, 0, 0), (40, .iload_n 2, 1, 0, 0, 0), (41, .ifCond .ne 5, 3, 46, 0, 0), (44, .iload_n 3, 1, 0, 0, 0), (45, .ireturn, 1, 0, 0, 0), (46, .iinc 2 (-1), 3, 0, (-1), 0), (49, .iinc 3 1, 3, 0, 1, 0), (52, .goto (-43), 3, 9, 0, 0)]
def xcodL (k pc : Nat) : Option xCe := bif Nat.beq k 111 then xfind xc_led pc else none
set_option maxRecDepth 100000 in
theorem x_led : xc_led.all (xokE (xE 111)) = true := by decide +kernel
theorem x_codeL {k pc : Nat} {e : xCe} (h : xcodL k pc = some e) : xokE (xE k) e = true ∧ e.1 = pc ∧ k < 274 := by
  unfold xcodL at h
  rw [Bool.cond_eq_ite] at h
  split at h
  · rename_i hk
    rw [Nat.eq_of_beq_eq_true hk]
    obtain ⟨h1, h2⟩ := xfind_mem _ _ _ h
    exact ⟨List.all_eq_true.mp x_led e h1, h2, by omega⟩
  · cases h
/-- as xex, but it stops before the instruction at t, with locals, stack and memory -/
def xpx (prim : Nat → Nat → List Value → xM → Option (Option Value × xM)) (t : Nat) : Nat → Nat → Nat → Nat → List Value → List Value → xM → Option (List Value × List Value × xM)
  | 0, _, _, _, _, _, _ => none
  | n + 1, d, k, pc, ls, st, σ => bif Nat.beq pc t then some (ls, st, σ) else match xcodL k pc with
    | none => none
    | some en => match xstep d en.2.1 en.2.2.2.1 en.2.2.2.2.1 en.2.2.2.2.2 pc ls st σ with
      | some x => xpx prim t n d k x.1 x.2.1 x.2.2.1 x.2.2.2
      | none => match xret en.2.1 (xE k).2.2.2.1 st with
        | some _ => none
        | none => match xargs en.2.1 en.2.2.2.1 st σ with
          | none => none
          | some ar => match d with
            | 0 => none
            | d' + 1 => bif xsr ar.2 && Nat.ble ((xflat ar.1).length) (xE en.2.2.2.1).2.2.1 && Nat.blt en.2.2.2.1 274 then
                (match (match prim d' en.2.2.2.1 ar.1 σ with
                  | some y => some y
                  | none => xex prim n d' en.2.2.2.1 0 (xent ar.1 (xE en.2.2.2.1).2.2.1) [] σ) with
                | some y => xpx prim t n (d' + 1) k (pc + 3) ls (y.1.toList ++ ar.2) y.2
                | none => none) else none
theorem xpx_mono {prim : Nat → Nat → List Value → xM → Option (Option Value × xM)} {t : Nat} (hpm : xpm prim) : ∀ (n d k pc : Nat) (ls st : List Value) (σ : xM) (y : List Value × List Value × xM), xpx prim t n d k pc ls st σ = some y → mN σ ≤ mN y.2.2 ∧ mU σ ≤ mU y.2.2 := by
  intro n
  induction n with
  | zero => intro d k pc ls st σ y h; cases h
  | succ n ih =>
    intro d k pc ls st σ y h
    unfold xpx at h
    rw [Bool.cond_eq_ite] at h
    split at h
    · cases h
      exact ⟨Nat.le_refl _, Nat.le_refl _⟩
    · split at h
      · cases h
      · split at h
        · rename_i hs
          have h1 := xstep_mono hs
          have h2 := ih _ _ _ _ _ _ _ h
          exact ⟨Nat.le_trans h1.1 h2.1, Nat.le_trans h1.2 h2.2⟩
        · split at h
          · cases h
          · split at h
            · cases h
            · split at h
              · cases h
              · rw [Bool.cond_eq_ite] at h
                split at h
                · split at h
                  · rename_i y1 hc
                    have h2 := ih _ _ _ _ _ _ _ h
                    have h1 : mN σ ≤ mN y1.2 ∧ mU σ ≤ mU y1.2 := by
                      split at hc
                      · rename_i hp
                        cases hc
                        exact hpm _ _ _ _ _ hp
                      · exact xex_mono hpm _ _ _ _ _ _ _ _ hc
                    exact ⟨Nat.le_trans h1.1 h2.1, Nat.le_trans h1.2 h2.2⟩
                  · cases h
                · cases h
theorem x_part {l : Launch} {dd : va_G} {cy : Nat → ClassId} {z : Nat} {sa : UInt32 → Nat} {Zs : State → Prop} {prim : Nat → Nat → List Value → xM → Option (Option Value × xM)} {t : Nat} (hZst : xZst z Zs) (hpm : xpm prim) (hprim : ∀ (d k : Nat) (as : List Value) (σ : xM) (y : Option Value × xM), prim d k as σ = some y → xMetP l dd cy z sa Zs d k as σ y.1 y.2) :
    ∀ (n d k pc : Nat) (ls st : List Value) (σ : xM) (ls' st' : List Value) (σ' : xM), xpx prim t n d k pc ls st σ = some (ls', st', σ') →
      ∀ (p : Program) (e : Env) (R : Room) (s : State) (m : MethodId) (args : Array Value) (below : List Frame) (meth : Method) (c : Code) (Q : State → Prop) (n0 u0 : Nat), xCx dd cy sa p s m args meth c k → Zs s → (d ≤ R.frames ∧ 42 * d ≤ R.locals) → s.heap.size = z + n0 → n0 ≤ mN σ → u0 ≤ mU σ → (mN σ' - n0 ≤ R.cells ∧ mU σ' - u0 ≤ R.slots) →
      xG p l e R s m args below meth c Q dd cy z sa n0 u0 t ls' st' σ' → xG p l e R s m args below meth c Q dd cy z sa n0 u0 pc ls st σ := by
  intro n
  induction n with
  | zero => intro d k pc ls st σ ls' st' σ' h; cases h
  | succ n ih =>
    intro d k pc ls st σ ls' st' σ' h p e R s m args below meth c Q n0 u0 C hZs hR hz h0 h0u hcap kk
    unfold xpx at h
    rw [Bool.cond_eq_ite] at h
    split at h
    · rename_i ht
      cases h
      rw [Nat.eq_of_beq_eq_true ht]
      exact kk
    · split at h
      · cases h
      · rename_i en hcode
        obtain ⟨hokE, hpc, hk⟩ := x_codeL hcode
        obtain ⟨pc0, i, len, rn, ri, rl⟩ := en
        simp only at hpc
        subst hpc
        simp only [xokE, Bool.and_eq_true, decide_eq_true_eq, Bool.or_eq_true, beq_iff_eq] at hokE
        obtain ⟨⟨hdg, hlen⟩, hok⟩ := hokE
        simp only at h
        split at h
        · rename_i x hs
          have hm1 := xstep_mono hs
          have hm2 := xpx_mono hpm _ _ _ _ _ _ _ _ h
          simp only at hm2
          exact x_step i p l e R s m args below meth c _ dd cy z sa n0 u0 k d pc0 len rn ri rl ls st σ x.1 x.2.1 x.2.2.1 x.2.2.2 C hR hz ⟨by omega, by omega⟩ hdg hlen hok hs (ih _ _ _ _ _ _ _ _ _ h p e R s m args below meth c Q n0 u0 C hZs hR hz (by omega) (by omega) hcap kk)
        · rename_i hns
          split at h
          · cases h
          · split at h
            · cases h
            · rename_i ar har
              split at h
              · cases h
              · rename_i d'
                rw [Bool.cond_eq_ite] at h
                split at h
                · rename_i hc
                  simp only [Bool.and_eq_true] at hc
                  split at h
                  · rename_i y hy
                    have hrn : rn < 274 := by
                      have := hc.2
                      rwa [Nat.blt_eq] at this
                    have hm2 := xpx_mono hpm _ _ _ _ _ _ _ _ h
                    simp only at hm2
                    have hM : (mN σ ≤ mN y.2 ∧ mU σ ≤ mU y.2) ∧ xMetP l dd cy z sa Zs d' rn ar.1 σ y.1 y.2 := by
                      split at hy
                      · rename_i hp
                        cases hy
                        exact ⟨hpm _ _ _ _ _ hp, hprim _ _ _ _ _ hp⟩
                      · exact ⟨xex_mono hpm _ _ _ _ _ _ _ _ hy, x_metOf hrn (Nat.le_of_ble_eq_true hc.1.2) (x_sound hZst hpm hprim _ _ _ _ _ _ _ _ _ hy)⟩
                    exact x_call hZst C hZs hR hz ⟨by omega, by omega⟩ hM.1 hdg hlen hok har hns hc.1.1 hrn hM.2 (ih _ _ _ _ _ _ _ _ _ h p e R s m args below meth c Q n0 u0 C hZs hR hz (by omega) (by omega) hcap kk)
                  · cases h
                · cases h
