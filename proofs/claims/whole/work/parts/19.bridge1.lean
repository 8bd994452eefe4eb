/-! PURE, THE FIRST BRIDGE: the class's heir is the reference's -/
theorem inF_bit {s : Int32} {p : Nat} (h : p < 6) : inF s (nI p) = bitF s (nI p) := by
  unfold inF bitF
  rw [if_neg (nI_pos (by omega)), if_neg (show ¬ (6 : Int32) ≤ nI p from nI_ge (b := 6) h (by omega))]
/-- one place of the two registers -/
def regR (r x : Int32) : Prop := (r = -2 ∧ x = -1) ∨ (0 ≤ r ∧ x = r)
/-- the two searches' states -/
def heirR (reg : Nat → Int32) (q : Nat) (who hour : Int32) (b : Option Nat) : Prop := (b = none ∧ who = -2 ∧ hour = -2) ∨ ∃ k, k < 6 ∧ b = some k ∧ who = nI k ∧ hour = reg (k * 6 + q) ∧ 0 ≤ hour
theorem latL_dead {reg : Nat → Int32} {living : Int32} {q n : Nat} (hd : ∀ p, n ≤ p → p < 6 → inF living (nI p) = 0) : ∀ (m : Nat) (who hour : Int32), m ≤ 6 - n → m ≤ 6 → latL reg living q m who hour = who := by
  intro m
  induction m with
  | zero => intro who hour _ _; rfl
  | succ m ih =>
    intro who hour hm h6
    unfold latL
    split
    · exact ih _ _ (by omega) (by omega)
    · rw [if_pos (hd _ (by omega) (by omega))]
      exact ih _ _ (by omega) (by omega)
theorem lat_ho {reg x : Nat → Int32} {living : Int32} {q n : Nat} (hn : n ≤ 6) (hL : x 42 = living) (hd : ∀ p, n ≤ p → p < 6 → inF living (nI p) = 0) (hR : ∀ p, p < 6 → regR (reg (p * 6 + q)) (x (6 + 6 * p + q))) : ∀ (m : Nat) (who hour : Int32) (b : Option Nat), m ≤ n → heirR reg q who hour b → latL reg living q (6 - n + m) who hour = ob (hoL x n q m b) := by
  intro m
  induction m with
  | zero =>
    intro who hour b _ hb
    rw [latL_dead hd _ _ _ (by omega) (by omega)]
    rcases hb with ⟨rfl, rfl, -⟩ | ⟨k, -, rfl, rfl, -⟩ <;> rfl
  | succ m ih =>
    intro who hour b hm hb
    obtain ⟨j, hj⟩ : ∃ j, n - (m + 1) = j := ⟨_, rfl⟩
    have hj6 : j < 6 := by omega
    have e0 : 6 - n + (m + 1) = (6 - n + m) + 1 := by omega
    have e5 : 6 - ((6 - n + m) + 1) = j := by omega
    rw [e0]
    simp only [latL, hoL, hj, e5, hL]
    by_cases e1 : j = q
    · rw [if_pos e1, if_pos e1]
      exact ih _ _ _ (by omega) hb
    · rw [if_neg e1, if_neg e1, inF_bit hj6]
      by_cases e2 : bitF living (nI j) = 0
      · rw [if_pos e2, if_pos e2]
        exact ih _ _ _ (by omega) hb
      · rw [if_neg e2, if_neg e2]
        have hnew : 0 ≤ reg (j * 6 + q) → heirR reg q (nI j) (reg (j * 6 + q)) (some j) := fun h => Or.inr ⟨j, hj6, rfl, rfl, rfl, h⟩
        rcases hR j hj6 with ⟨r1, r2⟩ | ⟨r1, r2⟩
        · rw [if_pos r2]
          have hle : reg (j * 6 + q) ≤ hour := by
            rw [r1]
            rcases hb with ⟨-, -, rfl⟩ | ⟨k, -, -, -, -, h0⟩
            · exact Int32.le_refl _
            · exact Int32.le_trans (by decide) h0
          rw [if_pos hle]
          exact ih _ _ _ (by omega) hb
        · have hx : ¬ x (6 + 6 * j + q) = -1 := fun e => by
            rw [r2] at e
            rw [e] at r1
            exact absurd r1 (by decide)
          rw [if_neg hx]
          rcases hb with ⟨rfl, rfl, rfl⟩ | ⟨k, k6, rfl, rfl, hh, h0⟩
          · have hnl : ¬ reg (j * 6 + q) ≤ -2 := fun e => absurd (Int32.le_trans r1 e) (by decide)
            rw [if_neg hnl]
            exact ih _ _ _ (by omega) (hnew r1)
          · have hxk : x (6 + 6 * k + q) = hour := by
              rcases hR k k6 with ⟨s1, -⟩ | ⟨-, s2⟩
              · rw [hh, s1] at h0
                exact absurd h0 (by decide)
              · rw [s2, hh]
            simp only [r2, hxk]
            by_cases e4 : reg (j * 6 + q) ≤ hour
            · rw [if_pos e4, if_pos e4]
              exact ih _ _ _ (by omega) (Or.inr ⟨k, k6, rfl, rfl, hh, h0⟩)
            · rw [if_neg e4, if_neg e4]
              exact ih _ _ _ (by omega) (hnew r1)
/-- Wills.latest and heirOf answer alike -/
theorem lat_ho_all {reg x : Nat → Int32} {living : Int32} {q n : Nat} (hn : n ≤ 6) (hL : x 42 = living) (hd : ∀ p, n ≤ p → p < 6 → inF living (nI p) = 0) (hR : ∀ p, p < 6 → regR (reg (p * 6 + q)) (x (6 + 6 * p + q))) : latL reg living q 6 (-2) (-2) = ob (hoL x n q n none) := by
  have := lat_ho hn hL hd hR n (-2) (-2) none (Nat.le_refl _) (Or.inl ⟨rfl, rfl, rfl⟩)
  rwa [show 6 - n + n = 6 by omega] at this
