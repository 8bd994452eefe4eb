/-! PURE: LastAskedModel.heirs -/
/-- the first j heirs are found -/
def hsM (σ : xM) (h X n j : Nat) : xM := sI σ (va_up (mI σ) h (fun p => if p < j then ob (hoL (mI σ X) n p n none) else mI σ h p))
theorem hsM_step {σ : xM} {h X n j : Nat} : sI (hsM σ h X n j) (up2 (mI (hsM σ h X n j)) h j (ob (hoL (mI σ X) n j n none))) = hsM σ h X n (j + 1) := by
  show sI σ (up2 (va_up (mI σ) h _) h j _) = sI σ _
  congr 1
  unfold up2
  rw [va_up2, va_up_self]
  congr 1
  funext p
  by_cases e : p = j
  · subst e
    rw [va_up_self, if_pos (by omega)]
  · rw [va_up_ne _ _ e]
    by_cases e2 : p < j
    · rw [if_pos e2, if_pos (by omega)]
    · rw [if_neg e2, if_neg (by omega)]
theorem f193_2_eq {σ : xM} {w X c n h : Nat} (hM : isM σ w X c n) (w3 : mR σ w 22 = some h) (hh : isI σ h 6) (hX : X ≠ h) (hc : c ≠ h) : ∀ (m fu : Nat), m ≤ n → m + 1 ≤ fu → f193_2 fu w (nI (n - m)) (hsM σ h X n (n - m)) = some (hsM σ h X n n) := by
  obtain ⟨⟨h1, h2⟩, ⟨h3, h4⟩, ⟨h5, h6, h7⟩, h8, h9⟩ := id hM
  have hIX : ∀ j, mI (hsM σ h X n j) X = mI σ X := fun j => va_up_ne _ _ hX
  have hIc : ∀ j, mI (hsM σ h X n j) c = mI σ c := fun j => va_up_ne _ _ hc
  have hM' : ∀ j, isM (hsM σ h X n j) w X c n := fun j => ⟨⟨h1, h2⟩, ⟨h3, h4⟩, ⟨h5, h6, h7⟩, by rw [hIc]; exact h8, h9⟩
  intro m
  induction m with
  | zero =>
    intro fu _ hf
    obtain ⟨fu, rfl⟩ : ∃ k, fu = k + 1 := ⟨fu - 1, by omega⟩
    unfold f193_2
    rw [gR_ok (σ := hsM σ h X n (n - 0)) h1 h2 h5, Option.bind_some, gI_ok (σ := hsM σ h X n (n - 0)) h6 h7, Option.bind_some, hIc, h8, if_pos (nI_le (by omega) (by omega))]
    rfl
  | succ m ih =>
    intro fu hm hf
    obtain ⟨fu, rfl⟩ : ∃ k, fu = k + 1 := ⟨fu - 1, by omega⟩
    obtain ⟨j, hj⟩ : ∃ j, n - (m + 1) = j := ⟨_, rfl⟩
    have hjn : j < n := by omega
    have hm2 : n - m = j + 1 := by omega
    have ih' := ih fu (by omega) (by omega)
    rw [hm2] at ih'
    unfold f193_2
    rw [hj, gR_ok (σ := hsM σ h X n j) h1 h2 h5, Option.bind_some, gI_ok (σ := hsM σ h X n j) h6 h7, Option.bind_some, hIc, h8, if_neg (nI_ge hjn (by omega)), gR_ok (σ := hsM σ h X n j) h1 h2 w3, Option.bind_some, cO_yes (σ := hsM σ h X n j) h1 h2, Option.bind_some, f192_eq (hM' j) (show j < 6 by omega), Option.bind_some, hIX]
    simp only
    rw [tI_nI (σ := hsM σ h X n j) (show isI (hsM σ h X n j) h 6 from hh) (show j < 6 by omega) (by omega), hsM_step, Option.bind_some, nI_1]
    exact ih'
/-- LastAskedModel.heirs -/
theorem f193_eq {σ : xM} {w X c n h : Nat} (hM : isM σ w X c n) (w3 : mR σ w 22 = some h) (hh : isI σ h 6) (hX : X ≠ h) (hc : c ≠ h) : f193 w σ = some (hsM σ h X n n) := by
  have h9 := hM.2.2.2.2
  have h0 : hsM σ h X n 0 = σ := by
    show sI σ (va_up (mI σ) h (fun p => if p < 0 then _ else mI σ h p)) = σ
    rw [show va_up (mI σ) h (fun p => if p < 0 then ob (hoL (mI σ X) n p n none) else mI σ h p) = mI σ by
      funext b
      by_cases e : b = h
      · subst e
        rw [va_up_self]
        funext p
        rw [if_neg (by omega)]
      · rw [va_up_ne _ _ e]]
    rfl
  have := f193_2_eq hM w3 hh hX hc n 1100 (Nat.le_refl _) (by omega)
  rw [Nat.sub_self, h0] at this
  exact this
