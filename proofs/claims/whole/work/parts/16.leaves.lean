/-! PURE: leaves of the class and the reference -/
def inF (s p : Int32) : Int32 := if p < 0 then 0 else if 6 ≤ p then 0 else if ((s >>> (p &&& 31)) &&& 1) = 1 then 1 else 0
def bitF (s p : Int32) : Int32 := if ((s >>> (p &&& 31)) &&& 1) = 1 then 1 else 0
theorem rZ_0 (σ : xM) : rZ 0 σ = some (0, σ) := rfl
theorem rZ_1 (σ : xM) : rZ 1 σ = some (1, σ) := rfl
/-- LastAsked.in -/
theorem f124_eq (s p : Int32) (σ : xM) : f124 s p σ = some (inF s p, σ) := by
  unfold f124 f124_23 f124_24 inF
  split
  · exact rZ_0 σ
  · split
    · exact rZ_0 σ
    · split
      · exact rZ_1 σ
      · exact rZ_0 σ
/-- LastAskedModel.bit -/
theorem f157_eq (s p : Int32) (σ : xM) : f157 s p σ = some (bitF s p, σ) := by
  unfold f157 f157_14 bitF
  split
  · exact rZ_1 σ
  · exact rZ_0 σ
/-- LastAsked.pair -/
theorem f125_eq (p q : Int32) (σ : xM) : f125 p q σ = some (p * 6 + q, σ) := rfl
/-- an int array of n places -/
def isI (σ : xM) (a n : Nat) : Prop := a < mN σ ∧ mK σ a = 11 ∧ mL σ a = n
theorem xinB_nI {j n : Nat} (h : j < n) (hn : n < 2 ^ 31) : xinB (nI j) n = true := by
  simp only [xinB, Bool.and_eq_true, Bool.not_eq_true', decide_eq_false_iff_not, Nat.blt_eq]
  exact ⟨nI_pos (by omega), by rw [nI_clamp (by omega)]; exact h⟩
theorem aI_nI {σ : xM} {a n j : Nat} (h : isI σ a n) (hj : j < n) (hn : n < 2 ^ 31) : aI σ a (nI j) = some (mI σ a j) := by
  obtain ⟨h1, h2, h3⟩ := h
  unfold aI
  rw [show (Nat.blt a (mN σ) && Nat.beq (mK σ a) 11 && xinB (nI j) (mL σ a)) = true by
    simp only [Bool.and_eq_true, Nat.blt_eq, Nat.beq_eq]
    exact ⟨⟨h1, h2⟩, by rw [h3]; exact xinB_nI hj hn⟩]
  simp only [cond_true, nI_clamp (show j < 2 ^ 31 by omega)]
theorem nI_pair (j q : Nat) : nI j * 6 + nI q = nI (j * 6 + q) := by
  rw [show (6 : Int32) = nI 6 from rfl, pk_mul, nI_add]
/-- who asked 'of' last, of those who live: from the m last people on -/
def latL (reg : Nat → Int32) (living : Int32) (q : Nat) : Nat → Int32 → Int32 → Int32
  | 0, who, _ => who
  | m + 1, who, hour =>
    if 6 - (m + 1) = q then latL reg living q m who hour
    else if inF living (nI (6 - (m + 1))) = 0 then latL reg living q m who hour
    else if reg ((6 - (m + 1)) * 6 + q) ≤ hour then latL reg living q m who hour
    else latL reg living q m (nI (6 - (m + 1))) (reg ((6 - (m + 1)) * 6 + q))
theorem f58_10_eq {σ : xM} {a q : Nat} {living : Int32} (h : isI σ a 36) (hq : q < 6) : ∀ (m n : Nat) (who hour : Int32), m ≤ 6 → m + 1 ≤ n → f58_10 n a living (nI q) who hour (nI (6 - m)) σ = some (latL (mI σ a) living q m who hour, σ) := by
  intro m
  induction m with
  | zero =>
    intro n who hour _ hn
    obtain ⟨n, rfl⟩ : ∃ k, n = k + 1 := ⟨n - 1, by omega⟩
    unfold f58_10
    rw [if_pos (show (6 : Int32) ≤ nI (6 - 0) by decide)]
    rfl
  | succ m ih =>
    intro n who hour hm hn
    obtain ⟨n, rfl⟩ : ∃ k, n = k + 1 := ⟨n - 1, by omega⟩
    obtain ⟨j, hj⟩ : ∃ j, 6 - (m + 1) = j := ⟨_, rfl⟩
    have hj6 : j < 6 := by omega
    have hnext : nI j + 1 = nI (6 - m) := by rw [nI_1]; congr 1; omega
    have ih' := fun w hr => ih n w hr (by omega) (by omega)
    unfold f58_10
    rw [hj, if_neg (show ¬ (6 : Int32) ≤ nI j from nI_ge (b := 6) hj6 (by omega))]
    simp only [latL, hj]
    have hk : ∀ w hr, f58_58 (f58_10 n) a living (nI q) w hr (nI j) σ = some (latL (mI σ a) living q m w hr, σ) := fun w hr => by
      unfold f58_58
      rw [hnext]
      exact ih' w hr
    by_cases e1 : j = q
    · rw [if_pos (by rw [e1]), if_pos e1]
      exact hk _ _
    · rw [if_neg (fun z => e1 ((nI_eq (by omega) (by omega)).mp z)), if_neg e1]
      simp only [f124_eq, f125_eq, Option.bind_some, nI_pair, aI_nI h (show j * 6 + q < 36 by omega) (by omega)]
      by_cases e2 : inF living (nI j) = 0
      · rw [if_pos e2, if_pos e2]
        exact hk _ _
      · rw [if_neg e2, if_neg e2]
        by_cases e3 : mI σ a (j * 6 + q) ≤ hour
        · rw [if_pos e3, if_pos e3]
          exact hk _ _
        · rw [if_neg e3, if_neg e3]
          exact hk _ _
/-- LastAsked$Wills.latest -/
theorem f58_eq {σ : xM} {a q : Nat} {living : Int32} (h : isI σ a 36) (hq : q < 6) : f58 a living (nI q) σ = some (latL (mI σ a) living q 6 (-2) (-2), σ) := by
  unfold f58
  exact f58_10_eq h hq 6 1100 (-2) (-2) (Nat.le_refl _) (by omega)
