/-! MATHEMATICS of rows: rows by codes of a smaller base; a row with rising digits is the first of its likes -/
/-- the row, the state, and whether all can be asked, of a code's first k digits -/
def phR (b : Nat) : Nat → Nat → Nat
  | 0, _ => 0
  | k + 1, x => 10 * phR b k (x / b) + x % b
def phS (C : Cty) (s : Sta) (p b : Nat) : Nat → Nat → Sta
  | 0, _ => s
  | k + 1, x => aG C p (phS C s p b k (x / b)) (x % b)
def phV (can b : Nat) : Nat → Nat → Bool
  | 0, _ => true
  | k + 1, x => phV can b k (x / b) && vd can (x % b)
theorem phR_lt {b : Nat} (h0 : 0 < b) (hb : b ≤ 10) : ∀ k x, phR b k x < 10 ^ k := by
  intro k
  induction k with
  | zero => intro x; show 0 < 1; omega
  | succ k ih =>
    intro x
    have h1 := ih (x / b)
    have h2 := Nat.mod_lt x h0
    rw [phR, Nat.pow_succ]
    omega
theorem phR_mono {b : Nat} (h0 : 0 < b) (hb : b ≤ 10) : ∀ k x y, x < b ^ k → y < b ^ k → x < y → phR b k x < phR b k y := by
  intro k
  induction k with
  | zero => intro x y hx hy h; simp at hx hy; omega
  | succ k ih =>
    intro x y hx hy h
    have hx' : x / b < b ^ k := by rw [Nat.pow_succ, Nat.mul_comm] at hx; exact Nat.div_lt_of_lt_mul hx
    have hy' : y / b < b ^ k := by rw [Nat.pow_succ, Nat.mul_comm] at hy; exact Nat.div_lt_of_lt_mul hy
    have hle : x / b ≤ y / b := Nat.div_le_div_right (Nat.le_of_lt h)
    have m1 := Nat.mod_lt x h0
    have m2 := Nat.mod_lt y h0
    rw [phR, phR]
    by_cases e : x / b = y / b
    · have d1 := Nat.div_add_mod x b
      have d2 := Nat.div_add_mod y b
      rw [e] at d1 ⊢
      omega
    · have := ih _ _ hx' hy' (by omega)
      omega
/-- every row of so many digits, all of them below b, has a code -/
theorem phR_onto {b : Nat} (h0 : 0 < b) : ∀ k r, r < 10 ^ k → (∀ j, j < k → r / 10 ^ j % 10 < b) → ∃ x, x < b ^ k ∧ phR b k x = r := by
  intro k
  induction k with
  | zero => intro r hr _; simp at hr; exact ⟨0, by simp, by rw [hr]; rfl⟩
  | succ k ih =>
    intro r hr hd
    obtain ⟨x, hx, hR⟩ := ih (r / 10) (by rw [Nat.pow_succ] at hr; omega) (fun j hj => by
      have := hd (j + 1) (by omega)
      rw [Nat.pow_succ, Nat.mul_comm, ← Nat.div_div_eq_div_mul] at this
      exact this)
    have h1 : r % 10 < b := by
      have := hd 0 (by omega)
      simpa using this
    refine ⟨x * b + r % 10, ?_, ?_⟩
    · rw [Nat.pow_succ]
      have : (x + 1) * b ≤ b ^ k * b := Nat.mul_le_mul_right b hx
      rw [Nat.add_mul] at this
      omega
    · have e1 : (x * b + r % 10) / b = x := by
        rw [Nat.add_comm, Nat.add_mul_div_right _ _ h0, Nat.div_eq_of_lt h1]
        omega
      have e2 : (x * b + r % 10) % b = r % 10 := by
        rw [Nat.add_comm, Nat.add_mul_mod_self_right, Nat.mod_eq_of_lt h1]
      rw [phR, e1, e2, hR]
      omega
theorem aG_0 (C : Cty) (p : Nat) (s : Sta) : aG C p s 0 = s := by unfold aG; rw [if_neg (by omega)]
/-- the code's row bears its state -/
theorem ph_row {C : Cty} {s : Sta} {p b n x : Nat} (h0 : 0 < b) (hb : b ≤ 10) (hn : n ≤ 3) (hx : x < b ^ n) : rowS C s p (phR b n x) = phS C s p b n x ∧ ∀ can, vrow can (phR b n x) = phV can b n x := by
  have v0 : ∀ can, vd can 0 = true := fun _ => rfl
  rcases (by omega : n = 0 ∨ n = 1 ∨ n = 2 ∨ n = 3) with rfl | rfl | rfl | rfl
  · exact ⟨by unfold rowS; simp [phR, phS, aG_0], fun can => by unfold vrow; simp [phR, phV, v0]⟩
  · have h1 : x % b < 10 := Nat.lt_of_lt_of_le (Nat.mod_lt x h0) hb
    have e3 : phR b 1 x = x % b := by simp [phR]
    have a1 : x % b / 100 % 10 = 0 := by omega
    have a2 : x % b / 10 % 10 = 0 := by omega
    have a3 : x % b % 10 = x % b := by omega
    exact ⟨by unfold rowS; rw [e3, a1, a2, a3, aG_0, aG_0]; rfl, fun can => by unfold vrow; rw [e3, a1, a2, a3, v0]; simp [phV]⟩
  · have h1 : x % b < 10 := Nat.lt_of_lt_of_le (Nat.mod_lt x h0) hb
    have h2 : x / b % b < 10 := Nat.lt_of_lt_of_le (Nat.mod_lt _ h0) hb
    have e3 : phR b 2 x = 10 * (x / b % b) + x % b := by simp [phR]
    generalize hp : x / b % b = u at h2 e3
    generalize hq : x % b = w at h1 e3
    have a1 : (10 * u + w) / 100 % 10 = 0 := by omega
    have a2 : (10 * u + w) / 10 % 10 = u := by omega
    have a3 : (10 * u + w) % 10 = w := by omega
    exact ⟨by unfold rowS; rw [e3, a1, a2, a3, aG_0]; simp [phS, hp, hq], fun can => by unfold vrow; rw [e3, a1, a2, a3, v0]; simp [phV, hp, hq]⟩
  · have h1 : x % b < 10 := Nat.lt_of_lt_of_le (Nat.mod_lt x h0) hb
    have h2 : x / b % b < 10 := Nat.lt_of_lt_of_le (Nat.mod_lt _ h0) hb
    have h3 : x / b / b % b < 10 := Nat.lt_of_lt_of_le (Nat.mod_lt _ h0) hb
    have e3 : phR b 3 x = 10 * (10 * (x / b / b % b) + x / b % b) + x % b := by simp [phR]
    generalize hp : x / b % b = u at h2 e3
    generalize hq : x % b = w at h1 e3
    generalize ht : x / b / b % b = t at h3 e3
    have a1 : (10 * (10 * t + u) + w) / 100 % 10 = t := by omega
    have a2 : (10 * (10 * t + u) + w) / 10 % 10 = u := by omega
    have a3 : (10 * (10 * t + u) + w) % 10 = w := by omega
    exact ⟨by unfold rowS; rw [e3, a1, a2, a3]; simp [phS, hp, hq, ht], fun can => by unfold vrow; rw [e3, a1, a2, a3]; simp [phV, hp, hq, ht, Bool.and_assoc]⟩
/-- best by codes is best by rows -/
theorem riF_codes {v : Nat → Nat} {c : Nat → Bool} {b n N k : Nat} (h0 : 0 < b) (hb : b ≤ 10) (hN : N = 10 ^ n) (hc : ∀ r, r < N → c r = true → ∀ j, j < n → r / 10 ^ j % 10 < b) (h : riF (fun x => v (phR b n x)) (fun x => c (phR b n x)) (b ^ n) = some k) : riF v c N = some (phR b n k) := by
  subst hN
  obtain ⟨a1, a2, a3⟩ := riF_iff.mp h
  refine riF_iff.mpr ⟨phR_lt h0 hb n k, a2, fun r hr hcr => ?_⟩
  obtain ⟨x, hx, rfl⟩ := phR_onto h0 n r hr (hc r hr hcr)
  rcases a3 x hx hcr with h1 | ⟨h1, h2⟩
  · exact Or.inl h1
  · refine Or.inr ⟨h1, ?_⟩
    by_cases e : k = x
    · rw [e]
      exact Nat.le_refl _
    · exact Nat.le_of_lt (phR_mono h0 hb n k x a1 hx (by omega))
theorem alk_refl (s : Sta) : alk s s := ⟨rfl, rfl, fun _ => rfl⟩
theorem alk_trans {s t u : Sta} (h : alk s t) (g : alk t u) : alk s u := ⟨h.1.trans g.1, h.2.1.trans g.2.1, fun q => (h.2.2 q).trans (g.2.2 q)⟩
section ORDER
variable {C : Cty} {s : Sta} {p : Nat}
theorem alk_aG {t u : Sta} {d : Nat} (hp : p < pe C) (hk : Ok (pe C) s) (ht : Ok (pe C) t) (hu : Ok (pe C) u) (hl : lv t = lv s) (h : alk t u) (hd : gdD C s p d) : alk (aG C p t d) (aG C p u d) := by
  unfold aG
  rcases hd with e | ⟨h1, h2, h3, h4, h5, h6⟩
  · rw [if_neg (by omega), if_neg (by omega)]
    exact h
  · rw [if_pos ⟨h1, h2⟩, if_pos ⟨h1, h2⟩]
    exact alk_giv ht hu h (by have := hk.1; omega) h4 (by rw [hl]; exact h5) (by rw [hl]; exact h6)
theorem alk_aG2 {t : Sta} {d e : Nat} (hp : p < pe C) (ht : Ok (pe C) t) (hl : lv t = lv s) (hh : hr t + 2 ≤ 2000) (hd : gdD C s p d) (he : gdD C s p e) : alk (aG C p (aG C p t d) e) (aG C p (aG C p t e) d) := by
  unfold aG
  rcases hd with e1 | ⟨h1, h2, h3, h4, h5, h6⟩
  · rw [if_neg (show ¬ (1 ≤ d ∧ d ≤ 6) by omega), if_neg (show ¬ (1 ≤ d ∧ d ≤ 6) by omega)]
    exact alk_refl _
  · rcases he with e2 | ⟨g1, g2, g3, g4, g5, g6⟩
    · rw [if_neg (show ¬ (1 ≤ e ∧ e ≤ 6) by omega), if_neg (show ¬ (1 ≤ e ∧ e ≤ 6) by omega)]
      exact alk_refl _
    · rw [if_pos (show 1 ≤ e ∧ e ≤ 6 from ⟨g1, g2⟩), if_pos (show 1 ≤ d ∧ d ≤ 6 from ⟨h1, h2⟩), if_pos (show 1 ≤ d ∧ d ≤ 6 from ⟨h1, h2⟩), if_pos (show 1 ≤ e ∧ e ≤ 6 from ⟨g1, g2⟩)]
      exact alk_swap ht hh hp h3 g3 h4 g4 (by rw [hl]; exact h5) (by rw [hl]; exact h6) (by rw [hl]; exact g6)
end ORDER
