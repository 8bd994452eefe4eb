/-! THE TEXT: the class's lines: cells of a draft -/
section CELLS
variable {σ : xM} {C : Cty}
theorem cC_head {τ : xM} (h : cC σ 2 C) {x g : Nat} (hot : ∀ a k, 2 ≤ a → a ≤ 12 → ¬ (a = 2 ∧ k ≤ 1) → mI τ a k = mI σ a k) (n0 : mI τ 2 0 = nI x) (n1 : mI τ 2 1 = nI g) : cC τ 2 (sHead C x g) := by
  obtain ⟨⟨a1, a2, a3, a4, a5, a6, a7⟩, c2, c3, c4, c5⟩ := h
  refine ⟨⟨?_, ?_, ?_, ?_, ?_, ?_, ?_⟩, fun i hi => ?_, fun i hi => ?_, fun i hi j hj => ?_, fun i hi => ?_⟩
  · exact n0
  · exact n1
  · rw [hot _ _ (by omega) (by omega) (by omega)]; exact a3
  · rw [hot _ _ (by omega) (by omega) (by omega)]; exact a4
  · rw [hot _ _ (by omega) (by omega) (by omega)]; exact a5
  · rw [hot _ _ (by omega) (by omega) (by omega)]; exact a6
  · rw [hot _ _ (by omega) (by omega) (by omega)]; exact a7
  · rw [hot _ _ (by omega) (by omega) (by omega), hot _ _ (by omega) (by omega) (by omega), hot _ _ (by omega) (by omega) (by omega)]; exact c2 i hi
  · rw [hot _ _ (by omega) (by omega) (by omega), hot _ _ (by omega) (by omega) (by omega)]; exact c3 i hi
  · rw [hot _ _ (by omega) (by omega) (by omega)]; exact c4 i hi j hj
  · rw [hot _ _ (by omega) (by omega) (by omega), hot _ _ (by omega) (by omega) (by omega), hot _ _ (by omega) (by omega) (by omega)]; exact c5 i hi
theorem cC_per {τ : xM} (h : cC σ 2 C) {y x d : Nat} (hot : ∀ a k, 2 ≤ a → a ≤ 12 → ¬ ((a = 2 ∧ k = 2) ∨ (3 ≤ a ∧ a ≤ 5 ∧ k = pe C)) → mI τ a k = mI σ a k) (n2 : mI τ 2 2 = nI (pe C + 1)) (n3 : mI τ 3 (pe C) = nI y) (n4 : mI τ 4 (pe C) = nI x) (n5 : mI τ 5 (pe C) = nI d) : cC τ 2 (sPer C y x d) := by
  obtain ⟨⟨a1, a2, a3, a4, a5, a6, a7⟩, c2, c3, c4, c5⟩ := h
  refine ⟨⟨?_, ?_, ?_, ?_, ?_, ?_, ?_⟩, fun i hi => ?_, fun i hi => ?_, fun i hi j hj => ?_, fun i hi => ?_⟩
  · rw [hot _ _ (by omega) (by omega) (by omega)]; exact a1
  · rw [hot _ _ (by omega) (by omega) (by omega)]; exact a2
  · exact n2
  · rw [hot _ _ (by omega) (by omega) (by omega)]; exact a4
  · rw [hot _ _ (by omega) (by omega) (by omega)]; exact a5
  · rw [hot _ _ (by omega) (by omega) (by omega)]; exact a6
  · rw [hot _ _ (by omega) (by omega) (by omega)]; exact a7
  · have hi : i < pe C + 1 := hi
    show mI τ (2 + 1) i = nI (upN (kd C) (pe C) y i) ∧ mI τ (2 + 2) i = nI (upN (h0 C) (pe C) x i) ∧ mI τ (2 + 3) i = nI (upN (dz C) (pe C) d i)
    unfold upN
    by_cases e : i = pe C
    · rw [if_pos e, if_pos e, if_pos e, e]; exact ⟨n3, n4, n5⟩
    · rw [if_neg e, if_neg e, if_neg e, hot _ _ (by omega) (by omega) (by omega), hot _ _ (by omega) (by omega) (by omega), hot _ _ (by omega) (by omega) (by omega)]; exact c2 i (by omega)
  · rw [hot _ _ (by omega) (by omega) (by omega), hot _ _ (by omega) (by omega) (by omega)]; exact c3 i hi
  · rw [hot _ _ (by omega) (by omega) (by omega)]; exact c4 i hi j hj
  · rw [hot _ _ (by omega) (by omega) (by omega), hot _ _ (by omega) (by omega) (by omega), hot _ _ (by omega) (by omega) (by omega)]; exact c5 i hi
theorem cC_near {τ : xM} (h : cC σ 2 C) {p q : Nat} (hpq : p ≠ q) (hot : ∀ a k, 2 ≤ a → a ≤ 12 → ¬ ((a = 2 ∧ k = 3) ∨ (a = 6 ∧ (k = p ∨ k = q))) → mI τ a k = mI σ a k) (n3 : mI τ 2 3 = nI (nNe C + 1)) (np : mI τ 6 p = nI (nr C p ||| 2 ^ q)) (nq : mI τ 6 q = nI (nr C q ||| 2 ^ p)) : cC τ 2 (sNear C p q) := by
  obtain ⟨⟨a1, a2, a3, a4, a5, a6, a7⟩, c2, c3, c4, c5⟩ := h
  refine ⟨⟨?_, ?_, ?_, ?_, ?_, ?_, ?_⟩, fun i hi => ?_, fun i hi => ?_, fun i hi j hj => ?_, fun i hi => ?_⟩
  · rw [hot _ _ (by omega) (by omega) (by omega)]; exact a1
  · rw [hot _ _ (by omega) (by omega) (by omega)]; exact a2
  · rw [hot _ _ (by omega) (by omega) (by omega)]; exact a3
  · exact n3
  · rw [hot _ _ (by omega) (by omega) (by omega)]; exact a5
  · rw [hot _ _ (by omega) (by omega) (by omega)]; exact a6
  · rw [hot _ _ (by omega) (by omega) (by omega)]; exact a7
  · rw [hot _ _ (by omega) (by omega) (by omega), hot _ _ (by omega) (by omega) (by omega), hot _ _ (by omega) (by omega) (by omega)]; exact c2 i hi
  · refine ⟨?_, by rw [hot _ _ (by omega) (by omega) (by omega)]; exact (c3 i hi).2⟩
    show mI τ 6 i = nI (upN (upN (nr C) p (nr C p ||| 2 ^ q)) q (nr C q ||| 2 ^ p) i)
    unfold upN
    by_cases e1 : i = q
    · rw [if_pos e1, e1]; exact nq
    · rw [if_neg e1]
      by_cases e2 : i = p
      · rw [if_pos e2, e2]; exact np
      · rw [if_neg e2, hot _ _ (by omega) (by omega) (by omega)]; exact (c3 i hi).1
  · rw [hot _ _ (by omega) (by omega) (by omega)]; exact c4 i hi j hj
  · rw [hot _ _ (by omega) (by omega) (by omega), hot _ _ (by omega) (by omega) (by omega), hot _ _ (by omega) (by omega) (by omega)]; exact c5 i hi
theorem cC_ask {τ : xM} (h : cC σ 2 C) {p q x : Nat} (hp : p < 6) (hq : q < 6) (hO : OkC C) (hno : r0 C p q = none) (hot : ∀ a k, 2 ≤ a → a ≤ 12 → ¬ ((a = 2 ∧ k = 4) ∨ (a = 8 ∧ k = p * 6 + q)) → mI τ a k = mI σ a k) (n4 : mI τ 2 4 = nI (nAs C + 1)) (n8 : mI τ 8 (p * 6 + q) = nI x) : cC τ 2 (sAsk C p q x) := by
  obtain ⟨⟨a1, a2, a3, a4, a5, a6, a7⟩, c2, c3, c4, c5⟩ := h
  have hr : ∀ a b, r0 (sAsk C p q x) a b = if a = p ∧ b = q then some x else r0 C a b := fun a b => rg2
  refine ⟨⟨?_, ?_, ?_, ?_, ?_, ?_, ?_⟩, fun i hi => ?_, fun i hi => ?_, fun i hi j hj => ?_, fun i hi => ?_⟩
  · rw [hot _ _ (by omega) (by omega) (by omega)]; exact a1
  · rw [hot _ _ (by omega) (by omega) (by omega)]; exact a2
  · rw [hot _ _ (by omega) (by omega) (by omega)]; exact a3
  · rw [hot _ _ (by omega) (by omega) (by omega)]; exact a4
  · exact n4
  · rw [hot _ _ (by omega) (by omega) (by omega)]; exact a6
  · rw [hot _ _ (by omega) (by omega) (by omega)]; exact a7
  · rw [hot _ _ (by omega) (by omega) (by omega), hot _ _ (by omega) (by omega) (by omega), hot _ _ (by omega) (by omega) (by omega)]; exact c2 i hi
  · rw [hot _ _ (by omega) (by omega) (by omega), hot _ _ (by omega) (by omega) (by omega)]; exact c3 i hi
  · rw [hr]
    by_cases e : i = p ∧ j = q
    · rw [if_pos e, e.1, e.2]; exact n8
    · rw [if_neg e, hot _ _ (by omega) (by omega) (by omega)]; exact c4 i hi j hj
  · rw [hr, if_neg (fun h => by
      obtain ⟨-, -, -, y, e⟩ := hO.2.2.2.2.2.2.2.2.2.2.2.2 i hi
      have h1 : hb C i = p := h.1
      have h2 : ho C i = q := h.2
      rw [h1, h2, hno] at e
      cases e), hot _ _ (by omega) (by omega) (by omega), hot _ _ (by omega) (by omega) (by omega), hot _ _ (by omega) (by omega) (by omega)]
    exact c5 i hi
theorem cC_hea {τ : xM} (h : cC σ 2 C) {p q x g : Nat} (hp : p < 6) (hq : q < 6) (hO : OkC C) (hno : r0 C p q = none) (hot : ∀ a k, 2 ≤ a → a ≤ 12 → ¬ ((a = 2 ∧ k = 5) ∨ (a = 8 ∧ k = p * 6 + q) ∨ (10 ≤ a ∧ k = nHe C)) → mI τ a k = mI σ a k) (n5 : mI τ 2 5 = nI (nHe C + 1)) (n8 : mI τ 8 (p * 6 + q) = nI x) (n10 : mI τ 10 (nHe C) = nI (p * 6 + q)) (n11 : mI τ 11 (nHe C) = nI x) (n12 : mI τ 12 (nHe C) = nI g) : cC τ 2 (sHea C p q x g) := by
  obtain ⟨⟨a1, a2, a3, a4, a5, a6, a7⟩, c2, c3, c4, c5⟩ := h
  have hr : ∀ a b, r0 (sHea C p q x g) a b = if a = p ∧ b = q then some x else r0 C a b := fun a b => rg2
  refine ⟨⟨?_, ?_, ?_, ?_, ?_, ?_, ?_⟩, fun i hi => ?_, fun i hi => ?_, fun i hi j hj => ?_, fun i hi => ?_⟩
  · rw [hot _ _ (by omega) (by omega) (by omega)]; exact a1
  · rw [hot _ _ (by omega) (by omega) (by omega)]; exact a2
  · rw [hot _ _ (by omega) (by omega) (by omega)]; exact a3
  · rw [hot _ _ (by omega) (by omega) (by omega)]; exact a4
  · rw [hot _ _ (by omega) (by omega) (by omega)]; exact a5
  · exact n5
  · rw [hot _ _ (by omega) (by omega) (by omega)]; exact a7
  · rw [hot _ _ (by omega) (by omega) (by omega), hot _ _ (by omega) (by omega) (by omega), hot _ _ (by omega) (by omega) (by omega)]; exact c2 i hi
  · rw [hot _ _ (by omega) (by omega) (by omega), hot _ _ (by omega) (by omega) (by omega)]; exact c3 i hi
  · rw [hr]
    by_cases e : i = p ∧ j = q
    · rw [if_pos e, e.1, e.2]; exact n8
    · rw [if_neg e, hot _ _ (by omega) (by omega) (by omega)]; exact c4 i hi j hj
  · have hi : i < nHe C + 1 := hi
    have eb : hb (sHea C p q x g) i = if i = nHe C then p else hb C i := rfl
    have eo : ho (sHea C p q x g) i = if i = nHe C then q else ho C i := rfl
    have eg : hg (sHea C p q x g) i = if i = nHe C then g else hg C i := rfl
    rw [eb, eo, eg, hr]
    by_cases e : i = nHe C
    · rw [if_pos e, if_pos e, if_pos e, if_pos ⟨rfl, rfl⟩, e]
      exact ⟨n10, n11, n12⟩
    · rw [if_neg e, if_neg e, if_neg e, if_neg (fun h => by
        obtain ⟨-, -, -, y, z⟩ := hO.2.2.2.2.2.2.2.2.2.2.2.2 i (by omega)
        rw [h.1, h.2, hno] at z
        cases z), hot _ _ (by omega) (by omega) (by omega), hot _ _ (by omega) (by omega) (by omega), hot _ _ (by omega) (by omega) (by omega)]
      exact c5 i (by omega)
theorem cC_wen {τ : xM} (h : cC σ 2 C) {p : Nat} {w : Option Nat} (hot : ∀ a k, 2 ≤ a → a ≤ 12 → ¬ ((a = 2 ∧ k = 6) ∨ (a = 7 ∧ k = p)) → mI τ a k = mI σ a k) (n6 : mI τ 2 6 = nI (nWe C + 1)) (n7 : mI τ 7 p = ob w) : cC τ 2 (sWen C p w) := by
  obtain ⟨⟨a1, a2, a3, a4, a5, a6, a7⟩, c2, c3, c4, c5⟩ := h
  refine ⟨⟨?_, ?_, ?_, ?_, ?_, ?_, ?_⟩, fun i hi => ?_, fun i hi => ?_, fun i hi j hj => ?_, fun i hi => ?_⟩
  · rw [hot _ _ (by omega) (by omega) (by omega)]; exact a1
  · rw [hot _ _ (by omega) (by omega) (by omega)]; exact a2
  · rw [hot _ _ (by omega) (by omega) (by omega)]; exact a3
  · rw [hot _ _ (by omega) (by omega) (by omega)]; exact a4
  · rw [hot _ _ (by omega) (by omega) (by omega)]; exact a5
  · rw [hot _ _ (by omega) (by omega) (by omega)]; exact a6
  · exact n6
  · rw [hot _ _ (by omega) (by omega) (by omega), hot _ _ (by omega) (by omega) (by omega), hot _ _ (by omega) (by omega) (by omega)]; exact c2 i hi
  · refine ⟨by rw [hot _ _ (by omega) (by omega) (by omega)]; exact (c3 i hi).1, ?_⟩
    show mI τ 7 i = wC (upN (wn C) p (some w) i)
    unfold upN
    by_cases e1 : i = p
    · rw [if_pos e1, e1, n7]
      cases w <;> rfl
    · rw [if_neg e1, hot _ _ (by omega) (by omega) (by omega)]; exact (c3 i hi).2
  · rw [hot _ _ (by omega) (by omega) (by omega)]; exact c4 i hi j hj
  · rw [hot _ _ (by omega) (by omega) (by omega), hot _ _ (by omega) (by omega) (by omega), hot _ _ (by omega) (by omega) (by omega)]; exact c5 i hi
end CELLS
