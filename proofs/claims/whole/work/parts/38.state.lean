/-! STATES: copied, given, left, a night; the class -/
def stL : List Nat := [26, 29, 35, 38, 41, 44, 47, 50, 53, 56, 59, 62, 65, 68, 71, 74, 77, 80, 83, 86, 89]
theorem stL_ok : ∀ a, a ∈ stL → a < 115 ∧ a + 1 < 115 ∧ a + 2 < 115 ∧ (a, 5, a + 1) ∈ xRf ∧ (a, 6, a + 2) ∈ xRf ∧ xKs.getD a 0 = 4 ∧ xKs.getD (a + 1) 0 = 11 ∧ xKs.getD (a + 2) 0 = 11 ∧ xLs.getD (a + 1) 0 = 6 ∧ xLs.getD (a + 2) 0 = 36 := by decide
theorem stA {σ : xM} {a : Nat} (hS : Sh σ) (ha : a ∈ stL) : cO σ a 4 = some () ∧ (∀ j, gI σ a 4 j = some (mI σ a j)) ∧ (∀ j x, pI σ a 4 j x = some (wI σ a j x)) ∧ gR σ a 4 5 = some (a + 1) ∧ gR σ a 4 6 = some (a + 2) ∧ (∀ j, j < 6 → aI σ (a + 1) (nI j) = some (mI σ (a + 1) j)) ∧ (∀ j x, j < 6 → tI σ (a + 1) (nI j) x = some (wI σ (a + 1) j x)) ∧ (∀ j x, j < 36 → tI σ (a + 2) (nI j) x = some (wI σ (a + 2) j x)) := by
  obtain ⟨h1, h2, h3, h4, h5, h6, h7, h8, h9, h10⟩ := stL_ok a ha
  have k := (sh_k hS h1).trans h6
  exact ⟨cO_yes (sh_n hS h1) k, fun j => gI_ok (sh_n hS h1) k, fun j x => pI_ok (sh_n hS h1) k, gR_ok (sh_n hS h1) k (hS.2.2 _ h4), gR_ok (sh_n hS h1) k (hS.2.2 _ h5), fun j hj => aI_nI (sh_a hS h2 h7 h9) hj (by decide), fun j x hj => tI_nI (sh_a hS h2 h7 h9) hj (by decide), fun j x hj => tI_nI (sh_a hS h3 h8 h10) hj (by decide)⟩
/-- a row of ints becomes another -/
def wA (σ : xM) (a : Nat) (f : Nat → Int32) : xM := sI σ (va_up (mI σ) a f)
theorem mI_wA (σ : xM) (a b : Nat) (f : Nat → Int32) : mI (wA σ a f) b = if b = a then f else mI σ b := by
  show va_up (mI σ) a f b = _
  by_cases e : b = a
  · subst e
    rw [va_up_self, if_pos rfl]
  · rw [va_up_ne _ _ e, if_neg e]
theorem Upd.wA {P : Nat → Nat → Bool} {σ τ : xM} (h : Upd P σ τ) {a : Nat} {f : Nat → Int32} (hp : ∀ k, P a k = true) : Upd P σ (wA τ a f) := by
  obtain ⟨a1, a6, a7⟩ := h
  refine ⟨a1, fun b j hb => ?_, a7⟩
  rw [mI_wA, if_neg (fun e => by rw [e, hp] at hb; cases hb)]
  exact a6 b j hb
theorem cpN {σ : xM} {a b n : Nat} (ha : isI σ a n) (hb : isI σ b n) (hn : n < 2 ^ 31) : cp σ b 0 a 0 (nI n) = some (wA σ a (va_cpy (mI σ b) (mI σ a) 0 0 n)) := by
  obtain ⟨a1, a2, a3⟩ := ha
  obtain ⟨b1, b2, b3⟩ := hb
  unfold cp
  have h0 : decide (nI n < 0) = false := decide_eq_false (nI_pos hn)
  have hc : (nI n).toNatClampNeg = n := nI_clamp hn
  simp only [hc, h0, show (0 : Int32).toNatClampNeg = 0 from rfl, Nat.zero_add, a3, b3]
  rw [show (Nat.blt a (mN σ) && Nat.beq (mK σ a) 11 && Nat.blt b (mN σ) && Nat.beq (mK σ b) 11 && !decide ((0 : Int32) < 0) && !decide ((0 : Int32) < 0) && !false && Nat.ble n n && Nat.ble n n) = true by
    simp only [Bool.and_eq_true, Nat.blt_eq, Nat.beq_eq, Nat.ble_eq]
    exact ⟨⟨⟨⟨⟨⟨⟨⟨a1, a2⟩, b1⟩, b2⟩, by decide⟩, by decide⟩, by decide⟩, Nat.le_refl _⟩, Nat.le_refl _⟩]
  rfl
/-- the three cells of a State -/
def Pst (a : Nat) : Nat → Nat → Bool := fun x _ => Nat.beq x a || (Nat.beq x (a + 1) || Nat.beq x (a + 2))
theorem Pst_0 (a k : Nat) : Pst a a k = true := by unfold Pst; simp
theorem Pst_1 (a k : Nat) : Pst a (a + 1) k = true := by unfold Pst; simp
theorem Pst_2 (a k : Nat) : Pst a (a + 2) k = true := by unfold Pst; simp
theorem Pst_no {a x : Nat} (k : Nat) (h : x ≠ a ∧ x ≠ a + 1 ∧ x ≠ a + 2) : Pst a x k = false := by
  unfold Pst
  rw [beqF h.1, beqF h.2.1, beqF h.2.2]
  rfl
/-- State.copy -/
theorem f47N {σ : xM} {a b n : Nat} {s : Sta} (hS : Sh σ) (ha : a ∈ stL) (hb : b ∈ stL) (hab : a ≠ b) (h1 : a ≠ b + 1) (h2 : a ≠ b + 2) (h3 : a + 1 ≠ b) (h4 : a + 2 ≠ b) (hn : n ≤ 6) (hc : cS σ b n s) : ∃ τ, f47 a b σ = some τ ∧ Upd (Pst a) σ τ ∧ cS τ a n s := by
  obtain ⟨k1, k2, k3, k4, k5, k6, k7, k8, k9, k10⟩ := stL_ok a ha
  obtain ⟨l1, l2, l3, l4, l5, l6, l7, l8, l9, l10⟩ := stL_ok b hb
  let τ1 := wI (wI (wI (wI (wI σ a 0 (mI σ b 0)) a 1 (mI σ b 1)) a 2 (mI σ b 2)) a 3 (mI σ b 3)) a 4 (mI σ b 4)
  have u1 : Upd (Pst a) σ τ1 := ((((Upd.refl.wI (Pst_0 a 0)).wI (Pst_0 a 1)).wI (Pst_0 a 2)).wI (Pst_0 a 3)).wI (Pst_0 a 4)
  let τ2 := wA τ1 (a + 1) (va_cpy (mI τ1 (b + 1)) (mI τ1 (a + 1)) 0 0 6)
  have u2 : Upd (Pst a) σ τ2 := u1.wA (Pst_1 a)
  let τ3 := wA τ2 (a + 2) (va_cpy (mI τ2 (b + 2)) (mI τ2 (a + 2)) 0 0 36)
  have u3 : Upd (Pst a) σ τ3 := u2.wA (Pst_2 a)
  have hnb : ∀ k, mI τ2 (b + 2) k = mI σ (b + 2) k := fun k => u2.2.1 _ _ (Pst_no k ⟨by omega, by omega, by omega⟩)
  have hnb1 : ∀ k, mI τ1 (b + 1) k = mI σ (b + 1) k := fun k => u1.2.1 _ _ (Pst_no k ⟨by omega, by omega, by omega⟩)
  refine ⟨τ3, ?_, u3, ?_⟩
  · unfold f47
    simp only [stA hS hb, stA hS ha, Option.bind_some]
    have S1 : Sh (wI σ a 0 (mI σ b 0)) := hS
    simp only [stA S1 hb, stA S1 ha, Option.bind_some, mI_w, show ¬ b = a from fun h => hab h.symm, false_and, if_false]
    have S2 : Sh (wI (wI σ a 0 (mI σ b 0)) a 1 (mI σ b 1)) := hS
    simp only [stA S2 hb, stA S2 ha, Option.bind_some, mI_w, show ¬ b = a from fun h => hab h.symm, false_and, if_false]
    have S3 : Sh (wI (wI (wI σ a 0 (mI σ b 0)) a 1 (mI σ b 1)) a 2 (mI σ b 2)) := hS
    simp only [stA S3 hb, stA S3 ha, Option.bind_some, mI_w, show ¬ b = a from fun h => hab h.symm, false_and, if_false]
    have S4 : Sh (wI (wI (wI (wI σ a 0 (mI σ b 0)) a 1 (mI σ b 1)) a 2 (mI σ b 2)) a 3 (mI σ b 3)) := hS
    simp only [stA S4 hb, stA S4 ha, Option.bind_some, mI_w, show ¬ b = a from fun h => hab h.symm, false_and, if_false]
    have S5 : Sh τ1 := hS
    show ((gR τ1 b 4 5).bind fun r11 => (gR τ1 a 4 5).bind fun r12 => (cp τ1 r11 0 r12 0 6).bind fun σ13 => (gR σ13 b 4 6).bind fun r14 => (gR σ13 a 4 6).bind fun r15 => (cp σ13 r14 0 r15 0 36).bind fun σ16 => some σ16) = some τ3
    simp only [stA S5 hb, stA S5 ha, Option.bind_some]
    rw [show (6 : Int32) = nI 6 from rfl, cpN (sh_a S5 k2 k7 k9) (sh_a S5 l2 l7 l9) (by decide), Option.bind_some]
    have S6 : Sh τ2 := hS
    show ((gR τ2 b 4 6).bind fun r14 => (gR τ2 a 4 6).bind fun r15 => (cp τ2 r14 0 r15 0 36).bind fun σ16 => some σ16) = some τ3
    simp only [stA S6 hb, stA S6 ha, Option.bind_some]
    rw [show (36 : Int32) = nI 36 from rfl, cpN (sh_a S6 k3 k8 k10) (sh_a S6 l3 l8 l10) (by decide), Option.bind_some]
  · obtain ⟨c1, c2, c3, c4, c5, c6, c7⟩ := hc
    have e0 : ∀ k, mI τ3 a k = mI τ1 a k := fun k => by
      show mI (wA τ2 (a + 2) _) a k = _
      rw [mI_wA, if_neg (by omega)]
      show mI (wA τ1 (a + 1) _) a k = _
      rw [mI_wA, if_neg (by omega)]
    refine ⟨fun p hp => ?_, fun p hp q hq => ?_, ?_, ?_, ?_, ?_, ?_⟩
    · show mI (wA τ2 (a + 2) _) (a + 1) p = _
      rw [mI_wA, if_neg (by omega)]
      show mI (wA τ1 (a + 1) _) (a + 1) p = _
      rw [mI_wA, if_pos rfl, pk_cpy_in (by omega) (by omega), hnb1, show 0 + (p - 0) = p by omega]
      exact c1 p hp
    · show mI (wA τ2 (a + 2) _) (a + 2) (p * 6 + q) = _
      rw [mI_wA, if_pos rfl, pk_cpy_in (by omega) (by omega), hnb, show 0 + (p * 6 + q - 0) = p * 6 + q by omega]
      exact c2 p hp q hq
    all_goals
      rw [e0]
      show mI (wI (wI (wI (wI (wI σ a 0 (mI σ b 0)) a 1 (mI σ b 1)) a 2 (mI σ b 2)) a 3 (mI σ b 3)) a 4 (mI σ b 4)) a _ = _
      simp [mI_w]
      assumption
