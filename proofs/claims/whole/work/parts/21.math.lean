/-! MATHEMATICS (numbers alone): sums, products, sums over sets, chains of heirs -/
def sm (f : Nat → Nat) : Nat → Nat
  | 0 => 0
  | k + 1 => sm f k + f k
def pr (f : Nat → Nat) : Nat → Nat
  | 0 => 1
  | k + 1 => pr f k * f k
theorem sm_congr {f g : Nat → Nat} : ∀ {k : Nat}, (∀ i, i < k → f i = g i) → sm f k = sm g k := by
  intro k
  induction k with
  | zero => intro _; rfl
  | succ k ih =>
    intro h
    simp only [sm]
    rw [ih (fun i hi => h i (by omega)), h k (by omega)]
theorem pr_congr {f g : Nat → Nat} : ∀ {k : Nat}, (∀ i, i < k → f i = g i) → pr f k = pr g k := by
  intro k
  induction k with
  | zero => intro _; rfl
  | succ k ih =>
    intro h
    simp only [pr]
    rw [ih (fun i hi => h i (by omega)), h k (by omega)]
theorem sm_add (f g : Nat → Nat) (k : Nat) : sm (fun i => f i + g i) k = sm f k + sm g k := by
  induction k with
  | zero => rfl
  | succ k ih => simp only [sm, ih]; omega
theorem sm_mul (c : Nat) (f : Nat → Nat) (k : Nat) : sm (fun i => c * f i) k = c * sm f k := by
  induction k with
  | zero => rfl
  | succ k ih => simp only [sm, ih, Nat.mul_add]
theorem sm_mulr (c : Nat) (f : Nat → Nat) (k : Nat) : sm (fun i => f i * c) k = sm f k * c := by
  induction k with
  | zero => simp [sm]
  | succ k ih => simp only [sm, ih, Nat.add_mul]
theorem sm_zero (k : Nat) : sm (fun _ => 0) k = 0 := by
  induction k with
  | zero => rfl
  | succ k ih => simp only [sm, ih]
theorem sm_swap (f : Nat → Nat → Nat) (k m : Nat) : sm (fun i => sm (fun j => f i j) m) k = sm (fun j => sm (fun i => f i j) k) m := by
  induction k with
  | zero => simp only [sm, sm_zero]
  | succ k ih => simp only [sm, ih, sm_add]
theorem sm_split (f : Nat → Nat) (a b : Nat) : sm f (a + b) = sm f a + sm (fun i => f (a + i)) b := by
  induction b with
  | zero => rfl
  | succ b ih => rw [show a + (b + 1) = (a + b) + 1 from rfl]; simp only [sm, ih]; omega
theorem sm_le {f g : Nat → Nat} : ∀ {k : Nat}, (∀ i, i < k → f i ≤ g i) → sm f k ≤ sm g k := by
  intro k
  induction k with
  | zero => intro _; exact Nat.le_refl _
  | succ k ih =>
    intro h
    simp only [sm]
    exact Nat.add_le_add (ih (fun i hi => h i (by omega))) (h k (by omega))
theorem sm_one {f : Nat → Nat} {k j : Nat} (hj : j < k) (h : ∀ i, i < k → i ≠ j → f i = 0) : sm f k = f j := by
  induction k with
  | zero => omega
  | succ k ih =>
    simp only [sm]
    by_cases e : j = k
    · subst e
      rw [sm_congr (g := fun _ => 0) (fun i hi => h i (by omega) (by omega)), sm_zero]
      omega
    · rw [ih (by omega) (fun i hi => h i (by omega)), h k (by omega) (by omega)]
      omega
theorem sm_ge {f : Nat → Nat} {k j : Nat} (hj : j < k) : f j ≤ sm f k := by
  induction k with
  | zero => omega
  | succ k ih =>
    simp only [sm]
    by_cases e : j = k
    · subst e; omega
    · have := ih (by omega); omega
/-- adding beyond -/
theorem sm_more {f : Nat → Nat} {a b : Nat} (hab : a ≤ b) (h : ∀ i, a ≤ i → i < b → f i = 0) : sm f b = sm f a := by
  obtain ⟨c, rfl⟩ : ∃ c, b = a + c := ⟨b - a, by omega⟩
  rw [sm_split, sm_congr (g := fun _ => 0) (fun i hi => h (a + i) (by omega) (by omega)), sm_zero]
  omega
theorem pr_more {f : Nat → Nat} {a b : Nat} (hab : a ≤ b) (h : ∀ i, a ≤ i → i < b → f i = 1) : pr f b = pr f a := by
  induction b with
  | zero => rw [show a = 0 by omega]
  | succ b ih =>
    by_cases e : a = b + 1
    · rw [e]
    · simp only [pr]
      rw [ih (by omega) (fun i h1 h2 => h i h1 (by omega)), h b (by omega) (by omega)]
      omega
theorem pr_mul (f g : Nat → Nat) (k : Nat) : pr (fun i => f i * g i) k = pr f k * pr g k := by
  induction k with
  | zero => rfl
  | succ k ih => simp only [pr, ih]; rw [Nat.mul_mul_mul_comm]
theorem pr_le {f g : Nat → Nat} : ∀ {k : Nat}, (∀ i, i < k → f i ≤ g i) → pr f k ≤ pr g k := by
  intro k
  induction k with
  | zero => intro _; exact Nat.le_refl _
  | succ k ih =>
    intro h
    simp only [pr]
    exact Nat.mul_le_mul (ih (fun i hi => h i (by omega))) (h k (by omega))
theorem pr_pos {f : Nat → Nat} : ∀ {k : Nat}, (∀ i, i < k → 0 < f i) → 0 < pr f k := by
  intro k
  induction k with
  | zero => intro _; exact Nat.one_pos
  | succ k ih =>
    intro h
    simp only [pr]
    exact Nat.mul_pos (ih (fun i hi => h i (by omega))) (h k (by omega))
theorem pr_zero {f : Nat → Nat} {k j : Nat} (hj : j < k) (h : f j = 0) : pr f k = 0 := by
  induction k with
  | zero => omega
  | succ k ih =>
    simp only [pr]
    by_cases e : j = k
    · subst e; rw [h, Nat.mul_zero]
    · rw [ih (by omega), Nat.zero_mul]
/-- the bit of a set -/
def tb (s p : Nat) : Bool := s.testBit p
theorem tb_or (s a b : Nat) : tb (s ||| 2 ^ a) b = (tb s b || decide (b = a)) := by
  unfold tb
  rw [Nat.testBit_or, Nat.testBit_two_pow]
  congr 1
  exact decide_eq_decide.mpr ⟨Eq.symm, Eq.symm⟩
theorem tb_or2 (s t b : Nat) : tb (s ||| t) b = (tb s b || tb t b) := Nat.testBit_or ..
theorem tb_0 (b : Nat) : tb 0 b = false := Nat.zero_testBit b
theorem tb_pow (a b : Nat) : tb (2 ^ a) b = decide (b = a) := by
  unfold tb
  rw [Nat.testBit_two_pow]
  exact decide_eq_decide.mpr ⟨Eq.symm, Eq.symm⟩
theorem tb_lt {s k p : Nat} (h : s < 2 ^ k) (hp : k ≤ p) : tb s p = false :=
  Nat.testBit_lt_two_pow (Nat.lt_of_lt_of_le h (Nat.pow_le_pow_right (by omega) hp))
theorem tb_ext {s t : Nat} (h : ∀ i, tb s i = tb t i) : s = t := Nat.eq_of_testBit_eq h
theorem tb_ext6 {s t : Nat} (hs : s < 64) (ht : t < 64) (h : ∀ i, i < 6 → tb s i = tb t i) : s = t := by
  refine tb_ext (fun i => ?_)
  by_cases e : i < 6
  · exact h i e
  · rw [tb_lt (k := 6) hs (by omega), tb_lt (k := 6) ht (by omega)]
theorem or_lt {s a : Nat} (hs : s < 64) (ha : a < 6) : s ||| 2 ^ a < 64 :=
  Nat.or_lt_two_pow (n := 6) hs (Nat.pow_lt_pow_right (by omega) ha)
/-- a set of weights: 'g i true' if i is in the set -/
def wt (g : Nat → Bool → Nat) (k s : Nat) : Nat := pr (fun i => g i (tb s i)) k
theorem wt_sum (g : Nat → Bool → Nat) : ∀ k, sm (wt g k) (2 ^ k) = pr (fun i => g i false + g i true) k := by
  intro k
  induction k with
  | zero => rfl
  | succ k ih =>
    rw [show 2 ^ (k + 1) = 2 ^ k + 2 ^ k by rw [Nat.pow_succ]; omega, sm_split]
    have h1 : sm (wt g (k + 1)) (2 ^ k) = sm (wt g k) (2 ^ k) * g k false := by
      rw [← sm_mulr]
      refine sm_congr (fun s hs => ?_)
      show pr _ k * g k (tb s k) = _
      rw [tb_lt hs (Nat.le_refl _)]
      rfl
    have h2 : sm (fun i => wt g (k + 1) (2 ^ k + i)) (2 ^ k) = sm (wt g k) (2 ^ k) * g k true := by
      rw [← sm_mulr]
      refine sm_congr (fun s hs => ?_)
      show pr _ k * g k (tb (2 ^ k + s) k) = _
      have e1 : tb (2 ^ k + s) k = true := by
        unfold tb
        rw [Nat.testBit_two_pow_add_eq, Nat.testBit_lt_two_pow hs]
        rfl
      rw [e1]
      congr 1
      refine pr_congr (fun i hi => ?_)
      show g i (tb (2 ^ k + s) i) = g i (tb s i)
      unfold tb
      rw [Nat.testBit_two_pow_add_gt hi]
    rw [h1, h2, ih, ← Nat.mul_add]
    rfl
/-- how many are in a set of six -/
def cn (s : Nat) : Nat := sm (fun i => if tb s i then 1 else 0) 6
theorem cn_or : ∀ s, s < 64 → ∀ a, a < 6 → tb s a = false → cn (s ||| 2 ^ a) = cn s + 1 := by decide +kernel
theorem cn_full : ∀ s, s < 64 → 6 ≤ cn s → ∀ a, a < 6 → tb s a = true := by decide +kernel
/-- all of one set are in the other -/
def sub (s t : Nat) : Prop := ∀ i, tb s i = true → tb t i = true
theorem sub_or {s t a : Nat} (h : sub s t) (ha : tb t a = true) : sub (s ||| 2 ^ a) t := fun i hi => by
  rw [tb_or, Bool.or_eq_true, decide_eq_true_eq] at hi
  rcases hi with hi | rfl
  · exact h i hi
  · exact ha
section CHAIN
variable (h : Nat → Option Nat)
/-- where all of one goes if a set dies -/
def endF (set : Nat) : Nat → Nat → Nat → Option Nat
  | 0, _, _ => none
  | k + 1, had, at_ => match h at_ with
    | none => none
    | some b => if tb (had ||| 2 ^ at_) b then none else if tb set b then endF set k (had ||| 2 ^ at_) b else some b
/-- those between -/
def btF (to : Nat) : Nat → Nat → Option Nat → Option Nat
  | 0, _, _ => none
  | _ + 1, _, none => none
  | k + 1, d, some a => if a = to then some d else btF to k (d ||| 2 ^ a) (h a)
def utF : Nat → Nat → Option Nat → Nat
  | 0, d, _ => d
  | _ + 1, d, none => d
  | k + 1, d, some a => utF k (d ||| 2 ^ a) (h a)
/-- whether p is come by within so many tests -/
def rdF (p : Nat) : Nat → Option Nat → Bool
  | 0, _ => false
  | _ + 1, none => false
  | k + 1, some a => if a = p then true else rdF p k (h a)
variable {h}
/-- the heirs of those gone by -/
def clo (h : Nat → Option Nat) (had at_ : Nat) : Prop := ∀ x, tb had x = true → ∃ y, h x = some y ∧ (tb had y = true ∨ y = at_)
theorem clo_next {had at_ b : Nat} (hc : clo h had at_) (hb : h at_ = some b) : clo h (had ||| 2 ^ at_) b := fun x hx => by
  rw [tb_or, Bool.or_eq_true, decide_eq_true_eq] at hx
  rcases hx with hx | rfl
  · obtain ⟨y, h1, h2⟩ := hc x hx
    refine ⟨y, h1, Or.inl ?_⟩
    rw [tb_or, Bool.or_eq_true, decide_eq_true_eq]
    exact h2
  · exact ⟨b, hb, Or.inr rfl⟩
theorem clo_in {had b : Nat} (hc : clo h had b) (hb : tb had b = true) : ∀ x, tb had x = true → ∃ y, h x = some y ∧ tb had y = true := fun x hx => by
  obtain ⟨y, h1, h2⟩ := hc x hx
  refine ⟨y, h1, ?_⟩
  rcases h2 with h2 | rfl
  · exact h2
  · exact hb
theorem or_in {s a : Nat} (ha : tb s a = true) : s ||| 2 ^ a = s := tb_ext (fun i => by
  rw [tb_or]
  by_cases e : i = a
  · subst e; rw [ha]; rfl
  · rw [decide_eq_false e, Bool.or_false])
theorem btF_in {S to : Nat} (hS : ∀ x, tb S x = true → ∃ y, h x = some y ∧ tb S y = true) (ht : tb S to = false) : ∀ k d a, tb S a = true → btF h to k d (some a) = none := by
  intro k
  induction k with
  | zero => intro d a _; rfl
  | succ k ih =>
    intro d a ha
    obtain ⟨y, h1, h2⟩ := hS a ha
    unfold btF
    rw [if_neg (fun e => by rw [e, ht] at ha; cases ha), h1]
    exact ih _ _ h2
theorem rdF_in {S to : Nat} (hS : ∀ x, tb S x = true → ∃ y, h x = some y ∧ tb S y = true) (ht : tb S to = false) : ∀ k a, tb S a = true → rdF h to k (some a) = false := by
  intro k
  induction k with
  | zero => intro a _; rfl
  | succ k ih =>
    intro a ha
    obtain ⟨y, h1, h2⟩ := hS a ha
    unfold rdF
    rw [if_neg (fun e => by rw [e, ht] at ha; cases ha), h1]
    exact ih _ h2
theorem utF_in {S : Nat} (hS : ∀ x, tb S x = true → ∃ y, h x = some y ∧ tb S y = true) : ∀ k a, tb S a = true → utF h k S (some a) = S := by
  intro k
  induction k with
  | zero => intro a _; rfl
  | succ k ih =>
    intro a ha
    obtain ⟨y, h1, h2⟩ := hS a ha
    unfold utF
    rw [or_in ha, h1]
    exact ih _ h2
theorem btF_sub {to : Nat} : ∀ k d a B, btF h to k d a = some B → sub d B ∧ (∀ x, a = some x → x ≠ to → tb B x = true) := by
  intro k
  induction k with
  | zero => intro d a B e; cases e
  | succ k ih =>
    intro d a B e
    cases a with
    | none => cases e
    | some a =>
      unfold btF at e
      by_cases ea : a = to
      · rw [if_pos ea] at e
        cases e
        exact ⟨fun i hi => hi, fun x hx hn => by cases hx; exact absurd ea hn⟩
      · rw [if_neg ea] at e
        obtain ⟨h1, -⟩ := ih _ _ _ e
        have ha : tb B a = true := h1 a (by rw [tb_or]; simp)
        exact ⟨fun i hi => h1 i (by rw [tb_or, hi]; rfl), fun x hx _ => by cases hx; exact ha⟩
theorem utF_sub : ∀ k d a, sub d (utF h k d a) := by
  intro k
  induction k with
  | zero => intro d a i hi; exact hi
  | succ k ih =>
    intro d a i hi
    cases a with
    | none => exact hi
    | some a =>
      unfold utF
      exact ih _ _ i (by rw [tb_or, hi]; rfl)
theorem endF_out {set : Nat} : ∀ k had a b, endF h set k had a = some b → tb set b = false := by
  intro k
  induction k with
  | zero => intro had a b e; cases e
  | succ k ih =>
    intro had a b e
    unfold endF at e
    split at e
    · cases e
    · split at e
      · cases e
      · split at e
        · exact ih _ _ _ e
        · rename_i h3
          cases e
          simpa using h3
theorem endF_bt {set to : Nat} (h6 : ∀ x y, h x = some y → y < 6) (ht : tb set to = false) : ∀ k had a, a < 6 → had < 64 → tb had a = false → tb set a = true → sub had set → clo h had a → 6 ≤ cn had + k → (endF h set k had a = some to ↔ ∃ B, btF h to k had (some a) = some B ∧ sub B set) := by
  intro k
  induction k with
  | zero =>
    intro had a _ _ _ _ _ _ _
    exact ⟨(fun e => by cases e), fun ⟨B, e, _⟩ => by cases e⟩
  | succ k ih =>
    intro had a ha6 h64 hna hsa hsub hclo hcn
    have hne : a ≠ to := fun e => by rw [e, ht] at hsa; cases hsa
    have hsub2 := sub_or hsub hsa
    have hcn2 := cn_or had h64 a ha6 hna
    have h642 := or_lt h64 ha6
    unfold endF btF
    rw [if_neg hne]
    cases hb : h a with
    | none =>
      refine ⟨(fun e => by cases e), fun ⟨B, e, _⟩ => ?_⟩
      cases k <;> cases e
    | some b =>
      have hb6 := h6 a b hb
      have hclo2 := clo_next hclo hb
      simp only
      by_cases e1 : tb (had ||| 2 ^ a) b = true
      · rw [if_pos e1]
        refine ⟨(fun e => by cases e), fun ⟨B, e, _⟩ => ?_⟩
        have htn : tb (had ||| 2 ^ a) to = false := by
          rw [Bool.eq_false_iff]
          intro e3
          rw [hsub2 to e3] at ht
          cases ht
        rw [btF_in (clo_in hclo2 e1) htn k _ b e1] at e
        cases e
      · rw [if_neg e1]
        have hk : k ≠ 0 := fun e0 => by
          subst e0
          exact e1 (cn_full _ h642 (by omega) b hb6)
        by_cases e2 : tb set b = true
        · rw [if_pos e2]
          exact ih _ b hb6 h642 (by simpa using e1) e2 hsub2 hclo2 (by omega)
        · rw [if_neg e2]
          obtain ⟨k, rfl⟩ : ∃ j, k = j + 1 := ⟨k - 1, by omega⟩
          constructor
          · intro e
            cases e
            refine ⟨had ||| 2 ^ a, ?_, hsub2⟩
            unfold btF
            rw [if_pos rfl]
          · rintro ⟨B, e, hB⟩
            by_cases e5 : b = to
            · rw [e5]
            · exact absurd (hB b ((btF_sub _ _ _ _ e).2 b rfl e5)) e2
theorem endF_ut {set : Nat} (h6 : ∀ x y, h x = some y → y < 6) : ∀ k had a, a < 6 → had < 64 → tb had a = false → tb set a = true → sub had set → clo h had a → 6 ≤ cn had + k → (endF h set k had a = none ↔ sub (utF h k had (some a)) set) := by
  intro k
  induction k with
  | zero =>
    intro had a ha6 h64 hna _ _ _ hcn
    rw [cn_full had h64 (by omega) a ha6] at hna
    cases hna
  | succ k ih =>
    intro had a ha6 h64 hna hsa hsub hclo hcn
    have hsub2 := sub_or hsub hsa
    have hcn2 := cn_or had h64 a ha6 hna
    have h642 := or_lt h64 ha6
    unfold endF utF
    cases hb : h a with
    | none =>
      have : utF h k (had ||| 2 ^ a) none = had ||| 2 ^ a := by cases k <;> rfl
      rw [this]
      exact ⟨fun _ => hsub2, fun _ => rfl⟩
    | some b =>
      have hb6 := h6 a b hb
      have hclo2 := clo_next hclo hb
      simp only
      by_cases e1 : tb (had ||| 2 ^ a) b = true
      · rw [if_pos e1, utF_in (clo_in hclo2 e1) k b e1]
        exact ⟨fun _ => hsub2, fun _ => rfl⟩
      · rw [if_neg e1]
        have hk : k ≠ 0 := fun e0 => by
          subst e0
          exact e1 (cn_full _ h642 (by omega) b hb6)
        by_cases e2 : tb set b = true
        · rw [if_pos e2]
          exact ih _ b hb6 h642 (by simpa using e1) e2 hsub2 hclo2 (by omega)
        · rw [if_neg e2]
          obtain ⟨k, rfl⟩ : ∃ j, k = j + 1 := ⟨k - 1, by omega⟩
          refine ⟨(fun e => by cases e), fun hs => ?_⟩
          refine absurd (hs b ?_) e2
          unfold utF
          exact utF_sub _ _ _ b (by rw [tb_or]; simp)
theorem rdF_more {p : Nat} (hp : p < 6) (h6 : ∀ x y, h x = some y → y < 6) : ∀ k had a, a < 6 → had < 64 → tb had p = false → clo h had a → 6 ≤ cn had + k → rdF h p (k + 1) (some a) = rdF h p k (some a) := by
  intro k
  induction k with
  | zero =>
    intro had a ha6 h64 hnp _ hcn
    rw [cn_full had h64 (by omega) p hp] at hnp
    cases hnp
  | succ k ih =>
    intro had a ha6 h64 hnp hclo hcn
    unfold rdF
    by_cases ea : a = p
    · rw [if_pos ea, if_pos ea]
    · rw [if_neg ea, if_neg ea]
      cases hb : h a with
      | none => cases k <;> rfl
      | some b =>
        have hb6 := h6 a b hb
        have hclo2 := clo_next hclo hb
        by_cases e0 : tb had a = true
        · have hS := clo_in (h := h) (b := a) (had := had) hclo e0
          obtain ⟨y, h1, h2⟩ := hS a e0
          rw [hb] at h1
          cases h1
          rw [rdF_in hS hnp _ _ h2, rdF_in hS hnp _ _ h2]
        · refine ih _ b hb6 (or_lt h64 ha6) ?_ hclo2 ?_
          · rw [tb_or, hnp, decide_eq_false (fun e => ea e.symm)]
            rfl
          · have := cn_or had h64 a ha6 (by simpa using e0)
            omega
end CHAIN
