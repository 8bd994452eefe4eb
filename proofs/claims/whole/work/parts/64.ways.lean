/-! MATHEMATICS of ways: walks from house to house; the fewest hours by Floyd's way; the fewest hours by a set -/
/-- a walk of so many hours from p: all the houses it came by, where it ends -/
def wlk (E : Nat → Nat) (p : Nat) : Nat → Nat → Nat → Prop
  | 0, S, q => S = 2 ^ p ∧ q = p
  | k + 1, S, r => ∃ S' q, wlk E p k S' q ∧ tb (E q) r = true ∧ S = S' ||| 2 ^ r
theorem wlk_end {E : Nat → Nat} {p : Nat} : ∀ {k S q : Nat}, wlk E p k S q → tb S q = true := by
  intro k S q h
  cases k with
  | zero =>
    obtain ⟨rfl, rfl⟩ := h
    rw [tb_pow]
    simp
  | succ k =>
    obtain ⟨S', r, -, -, rfl⟩ := h
    rw [tb_or]
    simp
theorem wlk_6 {E : Nat → Nat} {p : Nat} (hE : ∀ x, x < 6 → E x < 64) (hp : p < 6) : ∀ {k S q : Nat}, wlk E p k S q → q < 6 ∧ S < 64 := by
  intro k
  induction k with
  | zero =>
    intro S q h
    obtain ⟨rfl, rfl⟩ := h
    exact ⟨hp, by have := or_lt (s := 0) (by omega) hp; rwa [Nat.zero_or] at this⟩
  | succ k ih =>
    intro S q h
    obtain ⟨S', r, h1, h2, rfl⟩ := h
    obtain ⟨a, b⟩ := ih h1
    have hq : q < 6 := by
      rcases Nat.lt_or_ge q 6 with h | h
      · exact h
      · rw [tb_lt (k := 6) (hE r a) h] at h2
        cases h2
    exact ⟨hq, or_lt b hq⟩
theorem wlk_cat {E : Nat → Nat} {p q k S : Nat} (h : wlk E p k S q) : ∀ {j T r : Nat}, wlk E q j T r → wlk E p (k + j) (S ||| T) r := by
  intro j
  induction j with
  | zero =>
    intro T r g
    obtain ⟨rfl, rfl⟩ := g
    rw [or_in (wlk_end h)]
    exact h
  | succ j ih =>
    intro T r g
    obtain ⟨T', x, g1, g2, rfl⟩ := g
    exact ⟨S ||| T', x, ih g1, g2, by rw [Nat.or_assoc]⟩
/-- the first hour at which all of a set have been come by -/
theorem wlk_first {E : Nat → Nat} {p S s0 : Nat} (hs : tb S s0 = true) : ∀ {k T q : Nat}, wlk E p k T q → sub S T → ∃ k' j l T' U, k' + j = k ∧ tb S l = true ∧ wlk E p k' T' l ∧ sub S T' ∧ wlk E l j U q := by
  intro k
  induction k with
  | zero =>
    intro T q h hS
    obtain ⟨rfl, rfl⟩ := h
    have h1 := hS s0 hs
    rw [tb_pow, decide_eq_true_eq] at h1
    subst h1
    exact ⟨0, 0, s0, 2 ^ s0, 2 ^ s0, rfl, hs, ⟨rfl, rfl⟩, hS, rfl, rfl⟩
  | succ k ih =>
    intro T r h hS
    obtain ⟨T0, q0, h1, h2, rfl⟩ := h
    by_cases e : sub S T0
    · obtain ⟨k', j, l, T', U, a1, a2, a3, a4, a5⟩ := ih h1 e
      exact ⟨k', j + 1, l, T', U ||| 2 ^ r, by omega, a2, a3, a4, U, q0, a5, h2, rfl⟩
    · have hr : tb S r = true := by
        rcases Bool.eq_false_or_eq_true (tb S r) with h3 | h3
        · exact h3
        · refine absurd (fun i hi => ?_) e
          have h4 := hS i hi
          rw [tb_or, Bool.or_eq_true, decide_eq_true_eq] at h4
          rcases h4 with h4 | h4
          · exact h4
          · rw [h4, h3] at hi
            cases hi
      exact ⟨k + 1, 0, r, T0 ||| 2 ^ r, 2 ^ r, rfl, hr, ⟨T0, q0, h1, h2, rfl⟩, hS, rfl, rfl⟩
-- ===== the fewest hours from house to house
def wayOk (E : Nat → Nat) (w : Nat → Nat → Nat) : Prop := (∀ x y, x < 6 → y < 6 → w x y ≤ 1000 ∧ (w x y < 1000 → ∃ T, wlk E x (w x y) T y)) ∧ ∀ x y k T, x < 6 → wlk E x k T y → w x y ≤ k
theorem fwS_get {b : Nat} (hb : b < 6) {w : Nat → Nat} (h0 : w (b * 6 + b) = 0) : ∀ j k, fwS b j w k = if k < j then min (w k) (w (k / 6 * 6 + b) + w (b * 6 + k % 6)) else w k := by
  intro j
  induction j with
  | zero =>
    intro k
    rw [if_neg (by omega)]
    rfl
  | succ j ih =>
    intro k
    rw [fwS]
    simp only
    by_cases e : k = j
    · subst e
      have e1 : fwS b k w (k / 6 * 6 + b) = w (k / 6 * 6 + b) := by
        rw [ih, show (k / 6 * 6 + b) / 6 = k / 6 by omega, show (k / 6 * 6 + b) % 6 = b by omega, h0]
        split
        · omega
        · rfl
      have e2 : fwS b k w (b * 6 + k % 6) = w (b * 6 + k % 6) := by
        rw [ih, show (b * 6 + k % 6) / 6 = b by omega, show (b * 6 + k % 6) % 6 = k % 6 by omega, h0]
        split
        · omega
        · rfl
      rw [if_pos rfl, if_pos (by omega), e1, e2, ih, if_neg (by omega)]
    · rw [if_neg e, ih]
      by_cases e2 : k < j
      · rw [if_pos e2, if_pos (by omega)]
      · rw [if_neg e2, if_neg (by omega)]
theorem fwS_xy {b : Nat} (hb : b < 6) {w : Nat → Nat} (h0 : w (b * 6 + b) = 0) {x y : Nat} (hx : x < 6) (hy : y < 6) : fwS b 36 w (x * 6 + y) = min (w (x * 6 + y)) (w (x * 6 + b) + w (b * 6 + y)) := by
  rw [fwS_get hb h0, if_pos (by omega), show (x * 6 + y) / 6 = x by omega, show (x * 6 + y) % 6 = y by omega]
theorem fw_inv {C : Cty} : ∀ b, b ≤ 6 → (∀ x, x < 6 → fwB b (wy0 C) (x * 6 + x) = 0) ∧ (∀ x y, x < 6 → y < 6 → fwB b (wy0 C) (x * 6 + y) ≤ 1000 ∧ (fwB b (wy0 C) (x * 6 + y) < 1000 → ∃ T, wlk (nr C) x (fwB b (wy0 C) (x * 6 + y)) T y)) ∧ (∀ v, v < b → ∀ x y, x < 6 → y < 6 → fwB b (wy0 C) (x * 6 + y) ≤ fwB b (wy0 C) (x * 6 + v) + fwB b (wy0 C) (v * 6 + y)) ∧ (∀ x y, x < 6 → y < 6 → tb (nr C x) y = true → fwB b (wy0 C) (x * 6 + y) ≤ 1) := by
  intro b
  induction b with
  | zero =>
    intro _
    have e : ∀ x y, x < 6 → y < 6 → fwB 0 (wy0 C) (x * 6 + y) = if x = y then 0 else if tb (nr C x) y then 1 else 1000 := fun x y hx hy => by
      show wy0 C (x * 6 + y) = _
      unfold wy0
      rw [show (x * 6 + y) / 6 = x by omega, show (x * 6 + y) % 6 = y by omega]
    refine ⟨fun x hx => ?_, fun x y hx hy => ?_, fun v hv => by omega, fun x y hx hy h => ?_⟩
    · rw [e x x hx hx, if_pos rfl]
    · rw [e x y hx hy]
      by_cases e1 : x = y
      · rw [if_pos e1]
        exact ⟨by omega, fun _ => ⟨2 ^ x, rfl, e1.symm⟩⟩
      · rw [if_neg e1]
        cases e2 : tb (nr C x) y
        · simp
        · exact ⟨by simp, fun _ => ⟨2 ^ x ||| 2 ^ y, 2 ^ x, x, ⟨rfl, rfl⟩, e2, rfl⟩⟩
    · rw [e x y hx hy, h]
      split <;> simp
  | succ b ih =>
    intro hb6
    obtain ⟨i1, i2, i3, i4⟩ := ih (by omega)
    have hb : b < 6 := by omega
    have e : ∀ x y, x < 6 → y < 6 → fwB (b + 1) (wy0 C) (x * 6 + y) = min (fwB b (wy0 C) (x * 6 + y)) (fwB b (wy0 C) (x * 6 + b) + fwB b (wy0 C) (b * 6 + y)) := fun x y hx hy => fwS_xy hb (i1 b hb) hx hy
    generalize fwB b (wy0 C) = w at *
    generalize fwB (b + 1) (wy0 C) = w' at *
    refine ⟨fun x hx => ?_, fun x y hx hy => ?_, fun v hv x y hx hy => ?_, fun x y hx hy h => ?_⟩
    · rw [e x x hx hx, i1 x hx]
      omega
    · rw [e x y hx hy]
      obtain ⟨a1, a2⟩ := i2 x y hx hy
      obtain ⟨b1, b2⟩ := i2 x b hx hb
      obtain ⟨d1, d2⟩ := i2 b y hb hy
      by_cases h : w (x * 6 + y) ≤ w (x * 6 + b) + w (b * 6 + y)
      · rw [Nat.min_eq_left h]
        exact ⟨a1, a2⟩
      · rw [Nat.min_eq_right (by omega)]
        refine ⟨by omega, fun _ => ?_⟩
        obtain ⟨T, hT⟩ := b2 (by omega)
        obtain ⟨U, hU⟩ := d2 (by omega)
        exact ⟨T ||| U, wlk_cat hT hU⟩
    · have hv6 : v < 6 := by omega
      rw [e x y hx hy, e x v hx hv6, e v y hv6 hy]
      by_cases hvb : v = b
      · subst hvb
        have := i1 v hb
        omega
      · have hvb : v < b := by omega
        have t1 := i3 v hvb x y hx hy
        have t2 := i3 v hvb b y hb hy
        have t3 := i3 v hvb x b hx hb
        omega
    · rw [e x y hx hy]
      have := i4 x y hx hy h
      omega
theorem way_ok {C : Cty} (hE : ∀ x, x < 6 → nr C x < 64) : wayOk (nr C) (fun x y => wyF C (x * 6 + y)) := by
  obtain ⟨i1, i2, i3, i4⟩ := fw_inv (C := C) 6 (by omega)
  refine ⟨fun x y hx hy => i2 x y hx hy, fun x y k T hx => ?_⟩
  show wlk _ _ _ _ _ → fwB 6 (wy0 C) (x * 6 + y) ≤ k
  generalize fwB 6 (wy0 C) = w at *
  induction k generalizing T y with
  | zero =>
    intro h
    obtain ⟨-, rfl⟩ := h
    rw [i1 _ hx]
    omega
  | succ k ih =>
    intro h
    have hy := (wlk_6 hE hx h).1
    obtain ⟨T', q, h1, h2, -⟩ := h
    have hq := (wlk_6 hE hx h1).1
    have a := ih q T' h1
    have b := i4 q y hq hy h2
    have c := i3 q hq x y hx hy
    omega
-- ===== the fewest hours by a set, the last house told
def cov (E : Nat → Nat) (p k S q : Nat) : Prop := ∃ T, wlk E p k T q ∧ sub S T
/-- d is the least, or 1000 -/
def isD (E : Nat → Nat) (p S q d : Nat) : Prop := d ≤ 1000 ∧ (d < 1000 → cov E p d S q) ∧ ∀ k, cov E p k S q → d ≤ k
def isH (E : Nat → Nat) (p S d : Nat) : Prop := d ≤ 1000 ∧ (d < 1000 → ∃ q, q < 6 ∧ cov E p d S q) ∧ ∀ k q, cov E p k S q → d ≤ k
theorem isH_one {E : Nat → Nat} {p S d e : Nat} (h : isH E p S d) (g : isH E p S e) : d = e := by
  obtain ⟨h1, h2, h3⟩ := h
  obtain ⟨g1, g2, g3⟩ := g
  by_cases a : d < 1000
  · obtain ⟨q, -, hq⟩ := h2 a
    have b := g3 d q hq
    obtain ⟨r, -, hr⟩ := g2 (by omega)
    have c := h3 e r hr
    omega
  · by_cases b : e < 1000
    · obtain ⟨r, -, hr⟩ := g2 b
      have c := h3 e r hr
      omega
    · omega
/-- a set of one -/
theorem isD_one {E : Nat → Nat} {w : Nat → Nat → Nat} (hw : wayOk E w) {p l : Nat} (hp : p < 6) (hl : l < 6) : isD E p (2 ^ l) l (w p l) := by
  obtain ⟨h1, h2⟩ := hw
  refine ⟨(h1 p l hp hl).1, fun h => ?_, fun k h => ?_⟩
  · obtain ⟨T, hT⟩ := (h1 p l hp hl).2 h
    refine ⟨T, hT, fun i hi => ?_⟩
    rw [tb_pow, decide_eq_true_eq] at hi
    rw [hi]
    exact wlk_end hT
  · obtain ⟨T, hT, -⟩ := h
    exact h2 p l k T hp hT
/-- the least of some, 1000 at most -/
def mnF (f : Nat → Nat) (c : Nat → Bool) : Nat → Nat
  | 0 => 1000
  | j + 1 => if c j then min (f j) (mnF f c j) else mnF f c j
theorem mnF_le {f : Nat → Nat} {c : Nat → Bool} : ∀ j, mnF f c j ≤ 1000 ∧ (∀ i, i < j → c i = true → mnF f c j ≤ f i) ∧ (mnF f c j < 1000 → ∃ i, i < j ∧ c i = true ∧ mnF f c j = f i) := by
  intro j
  induction j with
  | zero => exact ⟨Nat.le_refl _, fun i hi => by omega, fun h => absurd h (by simp [mnF])⟩
  | succ j ih =>
    obtain ⟨a, b, d⟩ := ih
    rw [mnF]
    cases e : c j
    · rw [if_neg (by simp)]
      refine ⟨a, fun i hi hc => ?_, fun h => ?_⟩
      · by_cases e2 : i = j
        · rw [e2, e] at hc
          cases hc
        · exact b i (by omega) hc
      · obtain ⟨i, h1, h2, h3⟩ := d h
        exact ⟨i, by omega, h2, h3⟩
    · rw [if_pos rfl]
      refine ⟨by omega, fun i hi hc => ?_, fun h => ?_⟩
      · by_cases e2 : i = j
        · rw [e2]
          omega
        · have := b i (by omega) hc
          omega
      · by_cases e2 : f j ≤ mnF f c j
        · exact ⟨j, by omega, e, by omega⟩
        · obtain ⟨i, h1, h2, h3⟩ := d (by omega)
          exact ⟨i, by omega, h2, by omega⟩
/-- one house more -/
theorem isD_more {E : Nat → Nat} {w : Nat → Nat → Nat} (hw : wayOk E w) (hE : ∀ x, x < 6 → E x < 64) {p l S R : Nat} (hp : p < 6) (hl : l < 6) (hS : S < 64) (hlS : tb S l = true) (hR : R = dif S (2 ^ l)) (hR0 : R ≠ 0) {f : Nat → Nat} (hf : ∀ q, q < 6 → tb R q = true → isD E p R q (f q)) : isD E p S l (mnF (fun q => f q + w q l) (tb R) 6) := by
  have h2l : 2 ^ l < 64 := Nat.pow_lt_pow_right (a := 2) (by omega) (show l < 6 from hl)
  have hR64 : R < 64 := by rw [hR]; exact dif_lt hS
  have htb : ∀ i, tb R i = (tb S i && !decide (i = l)) := fun i => by
    by_cases hi : i < 6
    · rw [hR, tb_dif h2l hi, tb_pow]
    · rw [tb_lt (k := 6) hR64 (by omega), tb_lt (k := 6) hS (by omega)]
      rfl
  obtain ⟨s0, hs0⟩ : ∃ s0, tb R s0 = true := by
    refine Classical.byContradiction (fun h => hR0 (tb_ext (fun i => ?_)))
    rw [tb_0, Bool.eq_false_iff]
    exact fun h2 => h ⟨i, h2⟩
  obtain ⟨a, b, d⟩ := mnF_le (f := fun q => f q + w q l) (c := tb R) 6
  obtain ⟨h1, h2⟩ := hw
  refine ⟨a, fun h => ?_, fun k h => ?_⟩
  · obtain ⟨q, q1, q2, q3⟩ := d h
    rw [q3] at h ⊢
    obtain ⟨T, hT, hTR⟩ := (hf q q1 q2).2.1 (by omega)
    obtain ⟨U, hU⟩ := (h1 q l q1 hl).2 (by omega)
    refine ⟨T ||| U, wlk_cat hT hU, fun i hi => ?_⟩
    rw [tb_or2, Bool.or_eq_true]
    by_cases e : i = l
    · rw [e]
      exact Or.inr (wlk_end hU)
    · refine Or.inl (hTR i ?_)
      rw [htb, hi, decide_eq_false e]
      rfl
  · obtain ⟨T, hT, hST⟩ := h
    obtain ⟨k', j, q, T', U, e1, e2, e3, e4, e5⟩ := wlk_first hs0 hT (fun i hi => hST i (by
      rw [htb, Bool.and_eq_true] at hi
      exact hi.1))
    have hq6 : q < 6 := (wlk_6 hE hp e3).1
    have g1 := (hf q hq6 e2).2.2 k' ⟨T', e3, e4⟩
    have g2 := h2 q l j U hq6 e5
    have g3 : mnF (fun q => f q + w q l) (tb R) 6 ≤ f q + w q l := b q hq6 e2
    omega
/-- whatever house is the last -/
theorem isH_of {E : Nat → Nat} (hE : ∀ x, x < 6 → E x < 64) {p S : Nat} (hp : p < 6) (hS : S < 64) (hS0 : S ≠ 0) {f : Nat → Nat} (hf : ∀ q, q < 6 → tb S q = true → isD E p S q (f q)) : isH E p S (mnF f (tb S) 6) := by
  obtain ⟨s0, hs0⟩ : ∃ s0, tb S s0 = true := by
    refine Classical.byContradiction (fun h => hS0 (tb_ext (fun i => ?_)))
    rw [tb_0, Bool.eq_false_iff]
    exact fun h2 => h ⟨i, h2⟩
  obtain ⟨a, b, d⟩ := mnF_le (f := f) (c := tb S) 6
  refine ⟨a, fun h => ?_, fun k q h => ?_⟩
  · obtain ⟨q, q1, q2, q3⟩ := d h
    rw [q3] at h ⊢
    exact ⟨q, q1, (hf q q1 q2).2.1 h⟩
  · obtain ⟨T, hT, hST⟩ := h
    obtain ⟨k', j, l, T', U, e1, e2, e3, e4, e5⟩ := wlk_first hs0 hT hST
    have hl6 : l < 6 := (wlk_6 hE hp e3).1
    have g1 := (hf l hl6 e2).2.2 k' ⟨T', e3, e4⟩
    have g2 := b l hl6 e2
    omega
theorem isH_0 {E : Nat → Nat} {p : Nat} (hp : p < 6) : isH E p 0 0 := by
  refine ⟨by omega, fun _ => ⟨p, hp, 2 ^ p, ⟨rfl, rfl⟩, fun i hi => ?_⟩, fun k q _ => by omega⟩
  rw [tb_0] at hi
  cases hi
/-- the fewest hours by a set -/
noncomputable def hrs (E : Nat → Nat) (p S : Nat) : Nat := Classical.epsilon (fun d => isH E p S d)
theorem hrs_eq {E : Nat → Nat} {p S d : Nat} (h : isH E p S d) : hrs E p S = d := isH_one (Classical.epsilon_spec (p := fun d => isH E p S d) ⟨d, h⟩) h
/-- with six houses no way is longer than 6 -/
theorem cn_mono {s t : Nat} (h : sub s t) : cn s ≤ cn t := sm_le (fun i _ => by
  by_cases e : tb s i = true
  · rw [if_pos e, if_pos (h i e)]
    exact Nat.le_refl _
  · rw [if_neg e]
    omega)
theorem way_6 {E : Nat → Nat} {w : Nat → Nat → Nat} (hw : wayOk E w) (hE : ∀ x, x < 6 → E x < 64) {p : Nat} (hp : p < 6) : ∀ d r, r < 6 → w p r = d → d < 1000 → d + 1 ≤ cn (col (fun q => decide (w p q ≤ d)) 6) := by
  obtain ⟨h1, h2⟩ := hw
  intro d
  induction d with
  | zero =>
    intro r hr e _
    have ht : tb (col (fun q => decide (w p q ≤ 0)) 6) r = true := by rw [tb_col]; simp [hr, e]
    have h0 : sub (2 ^ r) (col (fun q => decide (w p q ≤ 0)) 6) := fun i hi => by
      rw [tb_pow, decide_eq_true_eq] at hi
      rw [hi]
      exact ht
    have h3 := cn_mono h0
    have h4 := cn_or 0 (by omega) r hr (tb_0 r)
    rw [Nat.zero_or] at h4
    omega
  | succ d ih =>
    intro r hr e hlt
    obtain ⟨T, S', q, g1, g2, -⟩ := (by have := (h1 p r hp hr).2 (by omega); rw [e] at this; exact this : ∃ T, wlk E p (d + 1) T r)
    have hq6 := (wlk_6 hE hp g1).1
    have hq : w p q ≤ d := h2 p q d S' hp g1
    have hq2 : d ≤ w p q := by
      obtain ⟨U, hU⟩ := (h1 p q hp hq6).2 (by omega)
      have := h2 p r (w p q + 1) (U ||| 2 ^ r) hp ⟨U, q, hU, g2, rfl⟩
      omega
    have g3 := ih q hq6 (by omega) (by omega)
    have hc : col (fun q => decide (w p q ≤ d)) 6 < 64 := col_lt _ 6 (Nat.le_refl _)
    have g4 := cn_or _ hc r hr (by rw [tb_col]; simp [hr]; omega)
    have g5 : sub (col (fun q => decide (w p q ≤ d)) 6 ||| 2 ^ r) (col (fun q => decide (w p q ≤ d + 1)) 6) := fun i hi => by
      rw [tb_or, tb_col, Bool.or_eq_true, Bool.and_eq_true, decide_eq_true_eq, decide_eq_true_eq, decide_eq_true_eq] at hi
      rw [tb_col, Bool.and_eq_true, decide_eq_true_eq, decide_eq_true_eq]
      rcases hi with ⟨a, b⟩ | rfl
      · exact ⟨a, by omega⟩
      · exact ⟨hr, by omega⟩
    have g6 := cn_mono g5
    omega
theorem way_le {E : Nat → Nat} {w : Nat → Nat → Nat} (hw : wayOk E w) (hE : ∀ x, x < 6 → E x < 64) {p r : Nat} (hp : p < 6) (hr : r < 6) (h : w p r < 1000) : w p r ≤ 6 := by
  have h1 := way_6 hw hE hp (w p r) r hr rfl h
  have h2 : ∀ s, cn s ≤ 6 := fun s => by
    have : cn s ≤ sm (fun _ => 1) 6 := sm_le (fun i _ => by split <;> omega)
    exact this
  have := h2 (col (fun q => decide (w p q ≤ w p r)) 6)
  omega
