/-! PURE: LastAskedModel.heirOf -/
/-- the reference's object at w: its row x at X, its city at c with n people -/
def isM (σ : xM) (w X c n : Nat) : Prop := (w < mN σ ∧ mK σ w = 9) ∧ (mR σ w 17 = some X ∧ isI σ X 47) ∧ (mR σ w 3 = some c ∧ c < mN σ ∧ mK σ c = 8) ∧ mI σ c 2 = nI n ∧ n ≤ 6
theorem gI_ok {σ : xM} {a c k : Nat} (h1 : a < mN σ) (h2 : mK σ a = c) : gI σ a c k = some (mI σ a k) := by
  unfold gI
  rw [show (Nat.blt a (mN σ) && Nat.beq (mK σ a) c) = true by
    simp only [Bool.and_eq_true, Nat.blt_eq, Nat.beq_eq]
    exact ⟨h1, h2⟩]
  rfl
theorem cO_yes {σ : xM} {a c : Nat} (h1 : a < mN σ) (h2 : mK σ a = c) : cO σ a c = some () := by
  unfold cO
  rw [show (Nat.blt a (mN σ) && Nat.beq (mK σ a) c) = true by
    simp only [Bool.and_eq_true, Nat.blt_eq, Nat.beq_eq]
    exact ⟨h1, h2⟩]
  rfl
theorem bitF_Z (s p : Int32) (σ : xM) : rZ (bitF s p) σ = some (bitF s p, σ) := by
  unfold bitF
  split
  · exact rZ_1 σ
  · exact rZ_0 σ
/-- isLiving -/
theorem f190_eq {σ : xM} {w X c n : Nat} (h : isM σ w X c n) (p : Int32) : f190 w p σ = some (bitF (mI σ X 42) p, σ) := by
  obtain ⟨⟨h1, h2⟩, ⟨h3, h4⟩, -⟩ := h
  unfold f190
  rw [gR_ok h1 h2 h3, Option.bind_some, show (42 : Int32) = nI 42 from rfl, aI_nI h4 (by omega) (by omega), Option.bind_some, f157_eq, Option.bind_some]
  exact bitF_Z _ _ _
/-- asked -/
theorem f191_eq {σ : xM} {w X c n : Nat} (h : isM σ w X c n) {p q : Nat} (hp : p < 6) (hq : q < 6) : f191 w (nI p) (nI q) σ = some (mI σ X (6 + 6 * p + q), σ) := by
  obtain ⟨⟨h1, h2⟩, ⟨h3, h4⟩, -⟩ := h
  unfold f191
  rw [gR_ok h1 h2 h3, Option.bind_some, show (6 : Int32) = nI 6 from rfl, pk_mul, nI_add, nI_add, aI_nI h4 (by omega) (by omega), Option.bind_some]
def ob (b : Option Nat) : Int32 := match b with
  | none => -2
  | some k => nI k
theorem ob_ne {k : Nat} (h : k < 6) : ¬ ob (some k) = -2 := fun e => by
  have h1 : ¬ nI k < 0 := nI_pos (by omega)
  have e : nI k = -2 := e
  rw [e] at h1
  exact h1 (by decide)
/-- the one who asked q last, of the m last people on -/
def hoL (x : Nat → Int32) (n q : Nat) : Nat → Option Nat → Option Nat
  | 0, b => b
  | m + 1, b =>
    if n - (m + 1) = q then hoL x n q m b
    else if bitF (x 42) (nI (n - (m + 1))) = 0 then hoL x n q m b
    else if x (6 + 6 * (n - (m + 1)) + q) = -1 then hoL x n q m b
    else match b with
      | none => hoL x n q m (some (n - (m + 1)))
      | some k => if x (6 + 6 * (n - (m + 1)) + q) ≤ x (6 + 6 * k + q) then hoL x n q m b else hoL x n q m (some (n - (m + 1)))
theorem f192_5_eq {σ : xM} {w X c n q : Nat} (h : isM σ w X c n) (hq : q < 6) : ∀ (m fu : Nat) (b : Option Nat), m ≤ n → m + 1 ≤ fu → (∀ k, b = some k → k < 6) → f192_5 fu w (nI q) (ob b) (nI (n - m)) σ = some (ob (hoL (mI σ X) n q m b), σ) := by
  obtain ⟨⟨h1, h2⟩, ⟨h3, h4⟩, ⟨h5, h6, h7⟩, h8, h9⟩ := id h
  intro m
  induction m with
  | zero =>
    intro fu b _ hf _
    obtain ⟨fu, rfl⟩ : ∃ k, fu = k + 1 := ⟨fu - 1, by omega⟩
    unfold f192_5
    rw [gR_ok h1 h2 h5, Option.bind_some, gI_ok h6 h7, Option.bind_some, h8, if_pos (nI_le (by omega) (by omega))]
    rfl
  | succ m ih =>
    intro fu b hm hf hb
    obtain ⟨fu, rfl⟩ : ∃ k, fu = k + 1 := ⟨fu - 1, by omega⟩
    obtain ⟨j, hj⟩ : ∃ j, n - (m + 1) = j := ⟨_, rfl⟩
    have hjn : j < n := by omega
    have hnext : nI j + 1 = nI (n - m) := by rw [nI_1]; congr 1; omega
    have hk : ∀ b2, (∀ k, b2 = some k → k < 6) → f192_65 (f192_5 fu) w (nI q) (ob b2) (nI j) σ = some (ob (hoL (mI σ X) n q m b2), σ) := fun b2 hb2 => by
      unfold f192_65
      rw [hnext]
      exact ih fu b2 (by omega) (by omega) hb2
    have hj2 : f192_63 (f192_5 fu) w (nI q) (nI j) σ = some (ob (hoL (mI σ X) n q m (some j)), σ) := by
      unfold f192_63
      exact hk (some j) (fun k e => by cases e; omega)
    unfold f192_5
    rw [gR_ok h1 h2 h5, Option.bind_some, gI_ok h6 h7, Option.bind_some, h8, hj, if_neg (nI_ge hjn (by omega))]
    simp only [hoL, hj]
    by_cases e1 : j = q
    · rw [if_pos (by rw [e1]), if_pos e1]
      exact hk b hb
    · rw [if_neg (fun z => e1 ((nI_eq (by omega) (by omega)).mp z)), if_neg e1]
      simp only [cO_yes h1 h2, Option.bind_some, f190_eq h, f191_eq h (show j < 6 by omega) hq]
      by_cases e2 : bitF (mI σ X 42) (nI j) = 0
      · rw [if_pos e2, if_pos e2]
        exact hk b hb
      · rw [if_neg e2, if_neg e2]
        by_cases e3 : mI σ X (6 + 6 * j + q) = -1
        · rw [if_pos e3, if_pos e3]
          exact hk b hb
        · rw [if_neg e3, if_neg e3]
          cases b with
          | none =>
            rw [if_pos (show ob none = -2 from rfl)]
            exact hj2
          | some k =>
            have hk6 := hb k rfl
            rw [if_neg (ob_ne hk6)]
            simp only [show ob (some k) = nI k from rfl, f191_eq h hk6 hq, Option.bind_some]
            by_cases e4 : mI σ X (6 + 6 * j + q) ≤ mI σ X (6 + 6 * k + q)
            · rw [if_pos e4, if_pos e4]
              exact hk (some k) hb
            · rw [if_neg e4, if_neg e4]
              exact hj2
/-- LastAskedModel.heirOf -/
theorem f192_eq {σ : xM} {w X c n q : Nat} (h : isM σ w X c n) (hq : q < 6) : f192 w (nI q) σ = some (ob (hoL (mI σ X) n q n none), σ) := by
  have h9 := h.2.2.2.2
  unfold f192
  have := f192_5_eq h hq n 1100 none (Nat.le_refl _) (by omega) (fun k e => by cases e)
  rw [Nat.sub_self] at this
  exact this
