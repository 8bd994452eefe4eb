/-! PURE: LastAsked$Wills.read -/
theorem va_up2 {α : Type} (f : Nat → α) (a : Nat) (x y : α) : va_up (va_up f a x) a y = va_up f a y := by
  funext b
  by_cases e : b = a
  · subst e
    rw [va_up_self, va_up_self]
  · rw [va_up_ne _ _ e, va_up_ne _ _ e, va_up_ne _ _ e]
/-- the HEIR of one who lives; -2 for the dead -/
def heirC (reg : Nat → Int32) (living : Int32) (p : Nat) : Int32 := if inF living (nI p) = 0 then -2 else latL reg living p 6 (-2) (-2)
/-- the first j heirs are read -/
def hsC (σ : xM) (h r : Nat) (living : Int32) (j : Nat) : xM := sI σ (va_up (mI σ) h (fun p => if p < j then heirC (mI σ r) living p else mI σ h p))
theorem hsC_step {σ : xM} {h r : Nat} {living : Int32} {j : Nat} : sI (hsC σ h r living j) (up2 (mI (hsC σ h r living j)) h j (heirC (mI σ r) living j)) = hsC σ h r living (j + 1) := by
  show sI σ (up2 (va_up (mI σ) h _) h j _) = sI σ _
  congr 1
  unfold up2
  rw [va_up2, va_up_self]
  congr 1
  funext p
  by_cases e : p = j
  · subst e
    rw [va_up_self, if_pos (by omega)]
  · rw [va_up_ne _ _ e]
    by_cases e2 : p < j
    · rw [if_pos e2, if_pos (by omega)]
    · rw [if_neg e2, if_neg (by omega)]
theorem tI_nI {σ : xM} {a n j : Nat} {v : Int32} (h : isI σ a n) (hj : j < n) (hn : n < 2 ^ 31) : tI σ a (nI j) v = some (sI σ (up2 (mI σ) a j v)) := by
  obtain ⟨h1, h2, h3⟩ := h
  unfold tI
  rw [show (Nat.blt a (mN σ) && Nat.beq (mK σ a) 11 && xinB (nI j) (mL σ a)) = true by
    simp only [Bool.and_eq_true, Nat.blt_eq, Nat.beq_eq]
    exact ⟨⟨h1, h2⟩, by rw [h3]; exact xinB_nI hj hn⟩]
  simp only [cond_true, nI_clamp (show j < 2 ^ 31 by omega)]
/-- an object of class c whose field k holds b -/
theorem gR_ok {σ : xM} {a c k b : Nat} (h1 : a < mN σ) (h2 : mK σ a = c) (h3 : mR σ a k = some b) : gR σ a c k = some b := by
  unfold gR
  rw [show (Nat.blt a (mN σ) && Nat.beq (mK σ a) c) = true by
    simp only [Bool.and_eq_true, Nat.blt_eq, Nat.beq_eq]
    exact ⟨h1, h2⟩]
  exact h3
theorem f57_2_eq {σ : xM} {w r h : Nat} {living : Int32} (w1 : w < mN σ) (w2 : mK σ w = 6) (w3 : mR σ w 0 = some h) (hh : isI σ h 6) (hr : isI σ r 36) (hrh : r ≠ h) : ∀ (m n : Nat), m ≤ 6 → m + 1 ≤ n → f57_2 n w r living (nI (6 - m)) (hsC σ h r living (6 - m)) = some (hsC σ h r living 6) := by
  intro m
  induction m with
  | zero =>
    intro n _ hn
    obtain ⟨n, rfl⟩ : ∃ k, n = k + 1 := ⟨n - 1, by omega⟩
    unfold f57_2
    rw [if_pos (show (6 : Int32) ≤ nI (6 - 0) by decide)]
    rfl
  | succ m ih =>
    intro n hm hn
    obtain ⟨n, rfl⟩ : ∃ k, n = k + 1 := ⟨n - 1, by omega⟩
    obtain ⟨j, hj⟩ : ∃ j, 6 - (m + 1) = j := ⟨_, rfl⟩
    have hj6 : j < 6 := by omega
    have hm2 : 6 - m = j + 1 := by omega
    have ih' := ih n (by omega) (by omega)
    rw [hm2] at ih'
    have hIr : mI (hsC σ h r living j) r = mI σ r := va_up_ne _ _ hrh
    have hr' : isI (hsC σ h r living j) r 36 := hr
    have hh' : isI (hsC σ h r living j) h 6 := hh
    have hk : f57_32 (f57_2 n) w r living (nI j) (heirC (mI σ r) living j) (nI j) h (hsC σ h r living j) = some (hsC σ h r living 6) := by
      unfold f57_32
      rw [tI_nI hh' hj6 (by omega), hsC_step, Option.bind_some, nI_1]
      exact ih'
    unfold f57_2
    rw [hj, if_neg (show ¬ (6 : Int32) ≤ nI j from nI_ge (b := 6) hj6 (by omega)), gR_ok (σ := hsC σ h r living j) w1 w2 w3, Option.bind_some, f124_eq, Option.bind_some]
    by_cases e : inF living (nI j) = 0
    · rw [if_pos e]
      rw [show heirC (mI σ r) living j = -2 by unfold heirC; rw [if_pos e]] at hk
      exact hk
    · rw [if_neg e, f58_eq hr' hj6, Option.bind_some, hIr]
      rw [show heirC (mI σ r) living j = latL (mI σ r) living j 6 (-2) (-2) by unfold heirC; rw [if_neg e]] at hk
      exact hk
/-- LastAsked$Wills.read: the heirs of all -/
theorem f57_eq {σ : xM} {w r h : Nat} {living : Int32} (w1 : w < mN σ) (w2 : mK σ w = 6) (w3 : mR σ w 0 = some h) (hh : isI σ h 6) (hr : isI σ r 36) (hrh : r ≠ h) : f57 w r living σ = some (hsC σ h r living 6) := by
  have h0 : hsC σ h r living 0 = σ := by
    show sI σ (va_up (mI σ) h (fun p => if p < 0 then _ else mI σ h p)) = σ
    rw [show va_up (mI σ) h (fun p => if p < 0 then heirC (mI σ r) living p else mI σ h p) = mI σ by
      funext b
      by_cases e : b = h
      · subst e
        rw [va_up_self]
        funext p
        rw [if_neg (by omega)]
      · rw [va_up_ne _ _ e]]
    rfl
  have := f57_2_eq (living := living) w1 w2 w3 hh hr hrh 6 1100 (Nat.le_refl _) (by omega)
  rw [show 6 - 6 = 0 from rfl, h0] at this
  exact this
