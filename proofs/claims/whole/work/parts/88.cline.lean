/-! THE TEXT: the class's readLine -/
section CLASS
variable {σ : xM} {f : Nat → Int32} {N e : Nat} {D : Drf}
theorem isW_one {w v : List Nat} (hw : isW f N w e = true) (hne : w ≠ v) : isW f N v e = false := by
  unfold isW at hw ⊢
  rw [decide_eq_true_eq] at hw
  rw [decide_eq_false_iff_not]
  exact fun h => hne (hw.2.symm.trans h.2)
theorem cRs_up {τ : xM} {o : Option (Int32 × xM)} {r : Sum (Nat × Nat) (Nat × Drf)} (hu : Upd Prd σ τ) (h : cRs τ f N o r) : cRs σ f N o r := by
  cases r with
  | inl x => obtain ⟨υ, a, b, c⟩ := h; exact ⟨υ, a, hu.trans b, c⟩
  | inr y => obtain ⟨υ, a, b, c⟩ := h; exact ⟨υ, a, hu.trans b, c⟩
theorem cRs_Z {o : Option (Int32 × xM)} {r : Sum (Nat × Nat) (Nat × Drf)} (h : cRs σ f N o r) : cRs σ f N (o.bind fun y => rZ y.1 y.2) r := by
  cases r with
  | inl x => obtain ⟨υ, a, b, c⟩ := h; rw [a]; exact ⟨υ, rfl, b, c⟩
  | inr y => obtain ⟨υ, a, b, c⟩ := h; rw [a]; exact ⟨υ, rfl, b, c⟩
/-- readLine -/
theorem c36 (h : cRd σ f N e D) (hO : OkD D) : cRs σ f N (f36 1 σ) (lLine f N D e) := by
  obtain ⟨h1, h2, h3, h4, h5, h6, h7⟩ := id h
  have hS := h1.1
  have hp6 := hO.1.1
  have hn3 := hO.1.2.2.2.2.2.2.2.2.2.2.2.1
  have b1 := tkE_b (f := f) h2
  obtain ⟨τ, t1, t2, t3, t4⟩ := c26 h
  have hSt := t3.1.1
  have ut := rd_sp t2
  have hw : ∀ w, okW w → f29 1 (lN (wdC w)) τ = some (bo (isW f N w e), τ) := fun w hw => f29N hSt h2 t4 hw
  have fl : ∀ k, cRs τ f N (f25 1 (nI k) τ) (.inl (k, tkS f N e)) := fun k => cRs_spo hSt t4
  have g11 : gI τ 1 3 11 = some (bo (dB D)) := by simp only [acR hSt, t3.2.2.2.2.1]
  have gc : gR τ 1 3 2 = some 2 := by simp only [acR hSt]
  have co : cO τ 1 3 = some () := by simp only [acR hSt]
  have g2 : gI τ 2 0 2 = some (nI (pe (dC D))) := by simp only [acR hSt, t3.2.2.2.2.2.1.1.2.2.1]
  have g3 : gI τ 2 0 3 = some (nI (nNe (dC D))) := by simp only [acR hSt, t3.2.2.2.2.2.1.1.2.2.2.1]
  have g4 : gI τ 2 0 4 = some (nI (nAs (dC D))) := by simp only [acR hSt, t3.2.2.2.2.2.1.1.2.2.2.2.1]
  have g5 : gI τ 2 0 5 = some (nI (nHe (dC D))) := by simp only [acR hSt, t3.2.2.2.2.2.1.1.2.2.2.2.2.1]
  have co0 : cO σ 1 3 = some () := by simp only [acR hS]
  refine cRs_up ut ?_
  unfold f36
  simp only [← kCity_ok.2.1, ← kPerson_ok.2.1, ← kNear_ok.2.1, ← kAsked_ok.2.1, ← kHeard_ok.2.1, ← kWent_ok.2.1, co0, t1, Option.bind_some, co, hw kCity kCity_ok.1, hw kPerson kPerson_ok.1, hw kNear kNear_ok.1, hw kAsked kAsked_ok.1, hw kHeard kHeard_ok.1, hw kWent kWent_ok.1, bo_0, g11]
  unfold lLine
  cases i1 : isW f N kCity e
  · rw [if_pos rfl, if_neg (show ¬ false = true by simp)]
    have f101 : ∀ a b c d : Bool, f36_101 1 (bo a) (bo b) (bo c) (bo d) τ = if dB D = false then (f25 1 (nI 6) τ).bind fun y => rZ y.1 y.2 else if a = true then (if 6 ≤ pe (dC D) then (f25 1 (nI 5) τ).bind fun y => rZ y.1 y.2 else (f38 1 τ).bind fun y => rZ y.1 y.2) else if b = true then (if 9 ≤ nNe (dC D) then (f25 1 (nI 5) τ).bind fun y => rZ y.1 y.2 else (f40 1 τ).bind fun y => rZ y.1 y.2) else if c = true then (if 12 ≤ nAs (dC D) then (f25 1 (nI 5) τ).bind fun y => rZ y.1 y.2 else (f42 1 τ).bind fun y => rZ y.1 y.2) else if d = true then (if 3 ≤ nHe (dC D) then (f25 1 (nI 5) τ).bind fun y => rZ y.1 y.2 else (f43 1 τ).bind fun y => rZ y.1 y.2) else (f44 1 τ).bind fun y => rZ y.1 y.2 := fun a b c d => by
      have d3 := hO.2.2.1
      have d4 := hO.2.2.2.1
      unfold f36_101 f36_143 f36_172 f36_201 f36_230
      simp only [g11, gc, co, Option.bind_some, g2, g3, g4, g5, bo_0, show (6 : Int32) = nI 6 from rfl, show (5 : Int32) = nI 5 from rfl, show (3 : Int32) = nI 3 from rfl, show (9 : Int32) = nI 9 from rfl, show (12 : Int32) = nI 12 from rfl, nI_leI (show 6 < 2 ^ 31 by decide) (show pe (dC D) < 2 ^ 31 by omega), nI_leI (show 9 < 2 ^ 31 by decide) (show nNe (dC D) < 2 ^ 31 by omega), nI_leI (show 12 < 2 ^ 31 by decide) (show nAs (dC D) < 2 ^ 31 by omega), nI_leI (show 3 < 2 ^ 31 by decide) (show nHe (dC D) < 2 ^ 31 by omega)]
      cases dB D <;> cases a <;> cases b <;> cases c <;> cases d <;> rfl
    have fl' : ∀ k, cRs τ f N ((f25 1 (nI k) τ).bind fun y => rZ y.1 y.2) (.inl (k, tkS f N e)) := fun k => cRs_Z (fl k)
    cases i2 : isW f N kPerson e
    · cases i3 : isW f N kNear e
      · cases i4 : isW f N kAsked e
        · cases i5 : isW f N kHeard e
          · cases i6 : isW f N kWent e
            · have h1' := fl' 1
              rw [show nI 1 = (1 : Int32) from rfl] at h1'
              simpa using h1'
            · simp only [if_true, f101]
              cases hb : dB D
              · simpa using fl' 6
              · simpa using cRs_Z (c44 t3 hO)
          · simp only [if_true, f101]
            cases hb : dB D
            · simpa using fl' 6
            · by_cases hn : nHe (dC D) < 3
              · have : ¬ 3 ≤ nHe (dC D) := by omega
                simpa [hn, this] using cRs_Z (c43 t3 hO hn)
              · have : 3 ≤ nHe (dC D) := by omega
                simpa [hn, this] using fl' 5
        · simp only [if_true, f101]
          cases hb : dB D
          · simpa using fl' 6
          · by_cases hn : nAs (dC D) < 12
            · have : ¬ 12 ≤ nAs (dC D) := by omega
              simpa [hn, this] using cRs_Z (c42 t3 hO)
            · have : 12 ≤ nAs (dC D) := by omega
              simpa [hn, this] using fl' 5
      · simp only [if_true, f101]
        cases hb : dB D
        · simpa using fl' 6
        · by_cases hn : nNe (dC D) < 9
          · have : ¬ 9 ≤ nNe (dC D) := by omega
            simpa [hn, this] using cRs_Z (c40 t3 hO)
          · have : 9 ≤ nNe (dC D) := by omega
            simpa [hn, this] using fl' 5
    · simp only [f101]
      cases hb : dB D
      · simpa using fl' 6
      · by_cases hn : pe (dC D) < 6
        · have : ¬ 6 ≤ pe (dC D) := by omega
          simpa [hn, this] using cRs_Z (c38 t3 hO hn)
        · have : 6 ≤ pe (dC D) := by omega
          simpa [hn, this] using fl' 5
  · rw [if_neg (by simp), if_pos rfl]
    unfold f36_34
    cases hb : dB D
    · rw [if_pos rfl, if_neg (by simp)]
      exact cRs_Z (c37 t3)
    · rw [if_neg (by simp), if_pos rfl, show (3 : Int32) = nI 3 from rfl]
      exact cRs_Z (fl 3)
end CLASS
