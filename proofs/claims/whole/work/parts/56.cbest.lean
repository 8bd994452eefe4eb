/-! WHOM TO ASK: best in the class -/
theorem aska_of {C : Cty} {s : Sta} {p o : Nat} (h : tb (aska C s p) o = true) : o < 6 ∧ tb (lv s) p = true ∧ tb (lv s) o = true ∧ p ≠ o := by
  unfold aska at h
  rw [tb_col] at h
  simp only [Bool.and_eq_true, decide_eq_true_eq] at h
  refine ⟨h.1, h.2.1, h.2.2.1, fun e => ?_⟩
  have := h.2.2.2
  unfold alw at this
  rw [e] at this
  simp at this
/-- a digit of a row -/
def aG (C : Cty) (p : Nat) (s : Sta) (d : Nat) : Sta := if 1 ≤ d ∧ d ≤ 6 then giv s (gv C) p (d - 1) else s
def vd (can d : Nat) : Bool := decide (d = 0) || (decide (d ≤ 6) && tb can (d - 1))
def rowS (C : Cty) (s : Sta) (p row : Nat) : Sta := aG C p (aG C p (aG C p s (row / 100 % 10)) (row / 10 % 10)) (row % 10)
def vrow (can row : Nat) : Bool := vd can (row / 100 % 10) && (vd can (row / 10 % 10) && vd can (row % 10))
def mbF (can row : Nat) : Bool := vrow can row && (decide (row / 100 % 10 ≤ row / 10 % 10) && decide (row / 10 % 10 ≤ row % 10))
def mbP (can : Nat) : Nat → Nat → Nat → Bool
  | 0, _, _ => true
  | k + 1, b, l => if l = 0 then true else decide (l % 10 ≤ b) && (vd can (l % 10) && mbP can k (l % 10) (l / 10))
theorem mbP_F {can row : Nat} (h : row < 1000) : mbP can 3 9 row = mbF can row := by
  have v0 : vd can 0 = true := rfl
  unfold mbF vrow
  rw [mbP]
  by_cases e1 : row = 0
  · rw [if_pos e1, e1]
    simp [v0]
  · rw [if_neg e1, mbP, show decide (row % 10 ≤ 9) = true by rw [decide_eq_true_eq]; omega]
    by_cases e2 : row / 10 = 0
    · rw [if_pos e2]
      have a : row / 100 % 10 = 0 := by omega
      have b : row / 10 % 10 = 0 := by omega
      rw [a, b, v0]
      simp
    · rw [if_neg e2, mbP]
      by_cases e3 : row / 10 / 10 = 0
      · rw [if_pos e3]
        have a : row / 100 % 10 = 0 := by omega
        rw [a, v0]
        simp
        cases vd can (row / 10 % 10) <;> cases vd can (row % 10) <;> simp
      · rw [if_neg e3, show mbP can 0 (row / 10 / 10 % 10) (row / 10 / 10 / 10) = true from rfl, show row / 10 / 10 = row / 100 by omega]
        cases vd can (row / 100 % 10) <;> cases vd can (row / 10 % 10) <;> cases vd can (row % 10) <;> simp
        rw [Bool.and_comm]
theorem f138_5N (σ : xM) {can : Nat} (hc : can < 64) : ∀ (k m b l : Nat), k + 1 ≤ m → l < 10 ^ k → k ≤ 3 → b < 10 → f138_5 m (nI can) (nI b) (nI l) σ = some (bo (mbP can k b l), σ) := by
  intro k
  induction k with
  | zero =>
    intro m b l hm hl _ _
    obtain ⟨m, rfl⟩ : ∃ k, m = k + 1 := ⟨m - 1, by omega⟩
    have : l = 0 := by simp at hl; exact hl
    rw [f138_5, this, if_pos (by decide)]
    rfl
  | succ k ih =>
    intro m b l hm hl hk hb
    obtain ⟨m, rfl⟩ : ∃ k, m = k + 1 := ⟨m - 1, by omega⟩
    have hl1 : l < 1000 := Nat.lt_of_lt_of_le hl (show 10 ^ (k + 1) ≤ 10 ^ 3 from Nat.pow_le_pow_right (by decide) hk)
    rw [f138_5, mbP]
    by_cases e : l = 0
    · rw [if_pos e, e, if_pos (by decide)]
      rfl
    · rw [if_neg e, if_neg (nI_nle (by omega) (by omega))]
      have hd : l / 10 < 10 ^ k := by rw [Nat.pow_succ] at hl; omega
      unfold f138_39 f138_37
      simp only [show (10 : Int32) = nI 10 from rfl, rIN (show l < 2 ^ 31 by omega) (show 10 ≠ 0 by omega) (show 10 < 2 ^ 31 by omega), dIN (show l < 2 ^ 31 by omega) (show 10 ≠ 0 by omega) (show 10 < 2 ^ 31 by omega), Option.bind_some, nI_ltI (show b < 2 ^ 31 by omega) (show l % 10 < 2 ^ 31 by omega), nI_0' (l % 10) (by omega), rZ0, ih m (l % 10) (l / 10) (by omega) hd (by omega) (by omega)]
      by_cases e1 : b < l % 10
      · rw [if_pos e1, show decide (l % 10 ≤ b) = false by rw [decide_eq_false_iff_not]; omega]
        rfl
      · rw [if_neg e1, show decide (l % 10 ≤ b) = true by rw [decide_eq_true_eq]; omega]
        by_cases e2 : l % 10 = 0
        · rw [if_pos e2, e2]
          rfl
        · rw [if_neg e2]
          obtain ⟨x, hx⟩ : ∃ x, l % 10 = x + 1 := ⟨l % 10 - 1, by omega⟩
          have hvd : vd can (l % 10) = (decide (x < 6) && tb can x) := by
            unfold vd
            rw [hx]
            simp
            rw [show decide (x ≤ 5) = decide (x < 6) from decide_eq_decide.mpr (by omega)]
          rw [hvd, hx, show nI (x + 1) - 1 = nI x from nI_pred x]
          by_cases e3 : x < 6
          · rw [f124N hc e3, Option.bind_some]
            simp only [bo_0]
            have h5 := ih m (x + 1) (l / 10) (by omega) hd (by omega) (by omega)
            cases e4 : tb can x
            · simp [e3]
            · simpa [e3] using h5
          · rw [f124out (Or.inr (show (6 : Int32) ≤ nI x from nI_le (a := 6) (by omega) (by omega))), Option.bind_some]
            simp [e3, bo_0]
/-- mayBeFirst -/
theorem f138N (σ : xM) {can row : Nat} (hc : can < 64) (hr : row < 1000) : f138 (nI can) (nI row) σ = some (bo (mbF can row), σ) := by
  unfold f138
  have := f138_5N σ hc 3 1100 9 row (by omega) hr (by omega) (by omega)
  rw [mbP_F hr] at this
  exact this
section CLASS
variable {σ : xM} {C : Cty} {s : Sta}
/-- a digit that is good for the state of the asks -/
def gdD (C : Cty) (s : Sta) (p d : Nat) : Prop := d = 0 ∨ (1 ≤ d ∧ d ≤ 6 ∧ d - 1 < pe C ∧ p ≠ d - 1 ∧ tb (lv s) p = true ∧ tb (lv s) (d - 1) = true)
theorem vd_gd {C : Cty} {s : Sta} {p d : Nat} (hk : Ok (pe C) s) (h : vd (aska C s p) d = true) : gdD C s p d := by
  unfold vd at h
  rw [Bool.or_eq_true, Bool.and_eq_true, decide_eq_true_eq, decide_eq_true_eq] at h
  rcases h with h | ⟨h1, h2⟩
  · exact Or.inl h
  · by_cases e : d = 0
    · exact Or.inl e
    · obtain ⟨a1, a2, a3, a4⟩ := aska_of h2
      exact Or.inr ⟨by omega, h1, hk.lvn a3, a4, a2, a3⟩
theorem aG_ok {C : Cty} {s t : Sta} {p d : Nat} (hp : p < pe C) (hk : Ok (pe C) t) (hl : lv t = lv s) (hh : hr t + 1 ≤ 2000) (h : gdD C s p d) : Ok (pe C) (aG C p t d) ∧ lv (aG C p t d) = lv s ∧ hr (aG C p t d) ≤ hr t + 1 := by
  unfold aG
  rcases h with h | ⟨h1, h2, h3, h4, h5, h6⟩
  · rw [if_neg (by omega)]
    exact ⟨hk, hl, by omega⟩
  · rw [if_pos ⟨h1, h2⟩]
    exact ⟨giv_ok hk hh hp h3 h4 (by rw [hl]; exact h5) (by rw [hl]; exact h6), hl, Nat.le_refl _⟩
/-- one digit of meanByRow's loop -/
theorem f139_step {τ : xM} {t : Sta} {p row u m M : Nat} {U : Int32} (hMm : M = m + 1) (hUu : U = nI u) (hS : Sh τ) (hgv : mI τ 15 1 = nI (gv C)) (hg : gv C ≤ 9) (hp : p < pe C) (hc : cS τ 29 (pe C) t) (hk : Ok (pe C) t) (hl : lv t = lv s) (hu0 : 0 < u) (hu : u ≤ 100) (hr : row < 1000) (hd : gdD C s p (row / u % 10)) : ∃ υ, f139_14 M 0 (nI p) (nI row) U τ = f139_14 m 0 (nI p) (nI row) (nI (u / 10)) υ ∧ Upd (Pst 29) τ υ ∧ cS υ 29 (pe C) (aG C p t (row / u % 10)) := by
  have h6 := hk.1
  have hb1 : row / u ≤ row := Nat.div_le_self _ _
  have q1 : dI (nI row) (nI u) = some (nI (row / u)) := dIN (by omega) (by omega) (by omega)
  have q2 : rI (nI (row / u)) 10 = some (nI (row / u % 10)) := rIN (x := row / u) (y := 10) (by omega) (by omega) (by omega)
  have q3 : dI (nI u) 10 = some (nI (u / 10)) := dIN (x := u) (y := 10) (by omega) (by omega) (by omega)
  subst hMm hUu
  generalize row / u % 10 = d at hd q2
  rw [f139_14, if_neg (nI_nle hu0 (by omega)), q1, Option.bind_some, q2, Option.bind_some]
  unfold f139_58 aG
  rcases hd with h | ⟨h1, h2, h3, h4, h5, h6'⟩
  · rw [h, if_pos (by decide), if_neg (by omega), q3, Option.bind_some]
    exact ⟨τ, rfl, Upd.refl, hc⟩
  · obtain ⟨υ, v1, v2, v3⟩ := f49N (a := 29) hS (by decide) hc hk hp h3 h4 hg
    rw [if_neg (nI_nle (by omega) (by omega)), if_neg (show ¬ (6 : Int32) < nI d from nI_nlt (a := 6) (b := d) (by omega) (by omega)), if_pos ⟨h1, h2⟩, show nI d - 1 = nI (d - 1) by
      obtain ⟨x, hx⟩ : ∃ x, d = x + 1 := ⟨d - 1, by omega⟩
      rw [hx, nI_pred]
      rfl]
    simp only [acC hS, Option.bind_some, hgv, v1, q3]
    exact ⟨υ, rfl, v2, v3⟩
theorem f139_end {τ : xM} {p row : Int32} {m M : Nat} (hMm : M = m + 1) : f139_14 M 0 p row (nI 0) τ = f139_66 0 p τ := by
  subst hMm
  rw [f139_14, if_pos (show nI 0 ≤ 0 by decide)]
end CLASS
