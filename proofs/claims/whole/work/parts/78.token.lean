/-! THE TEXT: runs, tokens, words -/
/-- the first place from e on that is not so, or the end -/
def rn (c : Nat → Bool) (N : Nat) : Nat → Nat → Nat
  | 0, e => e
  | k + 1, e => if e < N ∧ c e = true then rn c N k (e + 1) else e
def run (c : Nat → Bool) (N e : Nat) : Nat := rn c N (N - e) e
theorem run_step {c : Nat → Bool} {N e : Nat} (h1 : e < N) (h2 : c e = true) : run c N e = run c N (e + 1) := by
  unfold run
  obtain ⟨k, hk⟩ : ∃ k, N - e = k + 1 := ⟨N - e - 1, by omega⟩
  rw [hk, rn, if_pos ⟨h1, h2⟩, show N - (e + 1) = k by omega]
theorem run_stop {c : Nat → Bool} {N e : Nat} (h : ¬ (e < N ∧ c e = true)) : run c N e = e := by
  unfold run
  cases hk : N - e with
  | zero => rfl
  | succ k => rw [rn, if_neg h]
theorem rn_b {c : Nat → Bool} {N : Nat} : ∀ k e, e + k = N → e ≤ rn c N k e ∧ rn c N k e ≤ N ∧ ∀ i, e ≤ i → i < rn c N k e → c i = true := by
  intro k
  induction k with
  | zero => intro e h; exact ⟨Nat.le_refl _, by show e ≤ N; omega, fun i h1 h2 => absurd h2 (by show ¬ i < e; omega)⟩
  | succ k ih =>
    intro e h
    rw [rn]
    by_cases hc : e < N ∧ c e = true
    · rw [if_pos hc]
      obtain ⟨a, b, d⟩ := ih (e + 1) (by omega)
      refine ⟨by omega, b, fun i h1 h2 => ?_⟩
      by_cases ei : i = e
      · rw [ei]
        exact hc.2
      · exact d i (by omega) h2
    · rw [if_neg hc]
      exact ⟨Nat.le_refl _, by omega, fun i h1 h2 => by omega⟩
theorem run_b {c : Nat → Bool} {N e : Nat} (h : e ≤ N) : e ≤ run c N e ∧ run c N e ≤ N ∧ ∀ i, e ≤ i → i < run c N e → c i = true := rn_b _ _ (by omega)
def cSp (f : Nat → Int32) (i : Nat) : Bool := decide (f i = 32)
def cLt (f : Nat → Int32) (i : Nat) : Bool := !decide (f i < 97 ∨ 122 < f i)
def cDg (f : Nat → Int32) (i : Nat) : Bool := !decide (f i < 48 ∨ 57 < f i)
/-- the letters of a word, the last one first -/
def lt (f : Nat → Int32) (st : Nat) : Nat → List Nat
  | 0 => []
  | j + 1 => (pN (f (st + j)) - 96) :: lt f st j
def vl (f : Nat → Int32) (st : Nat) : Nat → Nat
  | 0 => 0
  | j + 1 => 10 * vl f st j + (pN (f (st + j)) - 48)
/-- the token from a place on: its start, sort (0 end, 1 word, 2 whole, 3 mark, 4 bad), end, word, value -/
def tkS (f : Nat → Int32) (N e : Nat) : Nat := run (cSp f) N e
def tkK (f : Nat → Int32) (N e : Nat) : Nat := if ¬ tkS f N e < N then 0 else if f (tkS f N e) = 59 then 3 else if cLt f (tkS f N e) then (if run (cLt f) N (tkS f N e) - tkS f N e ≤ 8 then 1 else 4) else if cDg f (tkS f N e) then (if run (cDg f) N (tkS f N e) - tkS f N e ≤ 3 then 2 else 4) else 4
def tkE (f : Nat → Int32) (N e : Nat) : Nat := if ¬ tkS f N e < N then tkS f N e else if f (tkS f N e) = 59 then tkS f N e + 1 else if cLt f (tkS f N e) then run (cLt f) N (tkS f N e) else if cDg f (tkS f N e) then run (cDg f) N (tkS f N e) else tkS f N e
def tkW (f : Nat → Int32) (N e : Nat) : List Nat := lt f (tkS f N e) (run (cLt f) N (tkS f N e) - tkS f N e)
def tkV (f : Nat → Int32) (N e : Nat) : Nat := vl f (tkS f N e) (run (cDg f) N (tkS f N e) - tkS f N e)
/-- a word as the class and as the reference keep it -/
def wdC : List Nat → Nat
  | [] => 0
  | d :: l => wdC l * 256 + (d + 96)
def wdM : List Nat → Nat
  | [] => 0
  | d :: l => 32 * wdM l + d
def okW (l : List Nat) : Prop := l.length ≤ 8 ∧ ∀ d, d ∈ l → 1 ≤ d ∧ d ≤ 26
theorem wdC_lt : ∀ l : List Nat, (∀ d, d ∈ l → 1 ≤ d ∧ d ≤ 26) → wdC l < 128 * 256 ^ (l.length - 1) ∧ wdC l < 256 ^ l.length := by
  intro l
  induction l with
  | nil => intro _; exact ⟨by show 0 < 128 * 256 ^ 0; decide, by show 0 < 256 ^ 0; decide⟩
  | cons d l ih =>
    intro h
    have hd := h d List.mem_cons_self
    obtain ⟨a, b⟩ := ih (fun x hx => h x (List.mem_cons_of_mem _ hx))
    rw [wdC, List.length_cons, Nat.add_sub_cancel]
    refine ⟨?_, by rw [Nat.pow_succ]; omega⟩
    cases l with
    | nil =>
      show 0 * 256 + (d + 96) < 128 * 256 ^ 0
      simp only [Nat.pow_zero]
      omega
    | cons x l =>
      rw [List.length_cons, Nat.add_sub_cancel] at a
      rw [List.length_cons, Nat.pow_succ]
      omega
theorem okW_C {l : List Nat} (h : okW l) : wdC l < 2 ^ 63 := by
  have h1 := (wdC_lt l h.2).1
  have h2 : 256 ^ (l.length - 1) ≤ 256 ^ 7 := Nat.pow_le_pow_right (by decide) (by have := h.1; omega)
  have h3 : 128 * 256 ^ 7 = 2 ^ 63 := by decide
  have h4 : 128 * 256 ^ (l.length - 1) ≤ 128 * 256 ^ 7 := Nat.mul_le_mul_left _ h2
  omega
theorem wdM_lt : ∀ l : List Nat, (∀ d, d ∈ l → 1 ≤ d ∧ d ≤ 26) → wdM l < 32 ^ l.length := by
  intro l
  induction l with
  | nil => intro _; show 0 < 32 ^ 0; decide
  | cons d l ih =>
    intro h
    have hd := h d List.mem_cons_self
    have a := ih (fun x hx => h x (List.mem_cons_of_mem _ hx))
    rw [wdM, List.length_cons, Nat.pow_succ]
    omega
theorem okW_M {l : List Nat} (h : okW l) : wdM l < 2 ^ 63 := by
  have h1 := wdM_lt l h.2
  have h2 : 32 ^ l.length ≤ 32 ^ 8 := Nat.pow_le_pow_right (by decide) h.1
  have h3 : 32 ^ 8 < 2 ^ 63 := by decide
  omega
theorem wdC_inj : ∀ a b : List Nat, (∀ d, d ∈ a → 1 ≤ d ∧ d ≤ 26) → (∀ d, d ∈ b → 1 ≤ d ∧ d ≤ 26) → wdC a = wdC b → a = b := by
  intro a
  induction a with
  | nil =>
    intro b _ hb h
    cases b with
    | nil => rfl
    | cons d l =>
      rw [wdC, wdC] at h
      omega
  | cons x a ih =>
    intro b ha hb h
    cases b with
    | nil =>
      rw [wdC, wdC] at h
      omega
    | cons y b =>
      have hx := ha x List.mem_cons_self
      have hy := hb y List.mem_cons_self
      rw [wdC, wdC] at h
      have h1 : x = y := by omega
      have h2 : wdC a = wdC b := by omega
      rw [h1, ih b (fun d hd => ha d (List.mem_cons_of_mem _ hd)) (fun d hd => hb d (List.mem_cons_of_mem _ hd)) h2]
theorem wdM_inj : ∀ a b : List Nat, (∀ d, d ∈ a → 1 ≤ d ∧ d ≤ 26) → (∀ d, d ∈ b → 1 ≤ d ∧ d ≤ 26) → wdM a = wdM b → a = b := by
  intro a
  induction a with
  | nil =>
    intro b _ hb h
    cases b with
    | nil => rfl
    | cons d l =>
      have hd := hb d List.mem_cons_self
      rw [wdM, wdM] at h
      omega
  | cons x a ih =>
    intro b ha hb h
    cases b with
    | nil =>
      have hx := ha x List.mem_cons_self
      rw [wdM, wdM] at h
      omega
    | cons y b =>
      have hx := ha x List.mem_cons_self
      have hy := hb y List.mem_cons_self
      rw [wdM, wdM] at h
      have h1 : x = y := by omega
      have h2 : wdM a = wdM b := by omega
      rw [h1, ih b (fun d hd => ha d (List.mem_cons_of_mem _ hd)) (fun d hd => hb d (List.mem_cons_of_mem _ hd)) h2]
theorem wC_eq {a b : List Nat} (ha : okW a) (hb : okW b) : (lg_cmp (lN (wdC a)) (lN (wdC b)) = 0) = (a = b) := by
  rw [lg_cmp_eq]
  exact propext ⟨fun h => wdC_inj a b ha.2 hb.2 ((pk_lEQ (okW_C ha) (okW_C hb)).mp h), fun h => by rw [h]⟩
theorem wM_eq {a b : List Nat} (ha : okW a) (hb : okW b) : (lg_cmp (lN (wdM a)) (lN (wdM b)) = 0) = (a = b) := by
  rw [lg_cmp_eq]
  exact propext ⟨fun h => wdM_inj a b ha.2 hb.2 ((pk_lEQ (okW_M ha) (okW_M hb)).mp h), fun h => by rw [h]⟩
/-- letters and digits as numbers -/
theorem lt_n {x : Int32} (h : ¬ (x < 97 ∨ 122 < x)) : ∃ b, 97 ≤ b ∧ b ≤ 122 ∧ x = nI b := by
  have h1 : ¬ x < 97 := fun e => h (Or.inl e)
  have h2 : ¬ 122 < x := fun e => h (Or.inr e)
  obtain ⟨k, a, b, e⟩ := okN_of (x := x) (lo_ := 97) (hi := 122) (by decide) (by decide) (show (!decide (x < 97 ∨ 122 < x)) = true by rw [decide_eq_false h]; rfl)
  exact ⟨k, a, b, e⟩
theorem dg_n {x : Int32} (h : ¬ (x < 48 ∨ 57 < x)) : ∃ b, 48 ≤ b ∧ b ≤ 57 ∧ x = nI b := by
  obtain ⟨k, a, b, e⟩ := okN_of (x := x) (lo_ := 48) (hi := 57) (by decide) (by decide) (show (!decide (x < 48 ∨ 57 < x)) = true by rw [decide_eq_false h]; rfl)
  exact ⟨k, a, b, e⟩
theorem lt_ok {f : Nat → Int32} {st : Nat} : ∀ j, (∀ i, st ≤ i → i < st + j → cLt f i = true) → (lt f st j).length = j ∧ ∀ d, d ∈ lt f st j → 1 ≤ d ∧ d ≤ 26 := by
  intro j
  induction j with
  | zero => intro _; exact ⟨rfl, fun d hd => by cases hd⟩
  | succ j ih =>
    intro h
    obtain ⟨a, b⟩ := ih (fun i h1 h2 => h i h1 (by omega))
    refine ⟨by rw [lt, List.length_cons, a], fun d hd => ?_⟩
    rw [lt, List.mem_cons] at hd
    rcases hd with rfl | hd
    · have h1 := h (st + j) (by omega) (by omega)
      unfold cLt at h1
      rw [Bool.not_eq_true', decide_eq_false_iff_not] at h1
      obtain ⟨k, k1, k2, k3⟩ := lt_n h1
      rw [k3, show pN (nI k) = k from nI_clamp (by omega)]
      omega
    · exact b d hd
theorem vl_b {f : Nat → Int32} {st : Nat} : ∀ j, (∀ i, st ≤ i → i < st + j → cDg f i = true) → vl f st j < 10 ^ j := by
  intro j
  induction j with
  | zero => intro _; show 0 < 1; omega
  | succ j ih =>
    intro h
    have a := ih (fun i h1 h2 => h i h1 (by omega))
    have h1 := h (st + j) (by omega) (by omega)
    unfold cDg at h1
    rw [Bool.not_eq_true', decide_eq_false_iff_not] at h1
    obtain ⟨k, k1, k2, k3⟩ := dg_n h1
    rw [vl, k3, show pN (nI k) = k from nI_clamp (by omega), Nat.pow_succ]
    omega
theorem tk_b {f : Nat → Int32} {N e : Nat} (h : e ≤ N) : e ≤ tkS f N e ∧ tkS f N e ≤ N ∧ tkS f N e ≤ tkE f N e ∧ tkE f N e ≤ N ∧ (tkK f N e ≠ 0 → tkK f N e ≠ 4 → tkS f N e < tkE f N e) := by
  obtain ⟨a, b, -⟩ := run_b (c := cSp f) h
  have b : tkS f N e ≤ N := b
  obtain ⟨d1, d2, -⟩ := run_b (c := cLt f) b
  obtain ⟨g1, g2, -⟩ := run_b (c := cDg f) b
  refine ⟨a, b, ?_, ?_, fun h0 h4 => ?_⟩
  · unfold tkE
    repeat' split
    all_goals omega
  · unfold tkE
    repeat' split
    all_goals omega
  · unfold tkK at h0 h4
    unfold tkE
    by_cases e1 : tkS f N e < N
    · rw [if_neg (by omega)] at h0 h4 ⊢
      by_cases e2 : f (tkS f N e) = 59
      · rw [if_pos e2]
        omega
      · rw [if_neg e2] at h0 h4 ⊢
        cases e3 : cLt f (tkS f N e)
        · rw [e3, if_neg (by simp)] at h0 h4
          rw [if_neg (by simp)]
          cases e4 : cDg f (tkS f N e)
          · rw [e4, if_neg (by simp)] at h4
            exact absurd rfl h4
          · have := run_step (c := cDg f) e1 e4
            have := (run_b (c := cDg f) (show tkS f N e + 1 ≤ N by omega)).1
            rw [if_pos rfl]
            omega
        · have := run_step (c := cLt f) e1 e3
          have := (run_b (c := cLt f) (show tkS f N e + 1 ≤ N by omega)).1
          rw [if_pos rfl]
          omega
    · rw [if_pos e1] at h0
      exact absurd rfl h0
theorem tkW_ok {f : Nat → Int32} {N e : Nat} (h : e ≤ N) (hk : tkK f N e = 1) : okW (tkW f N e) := by
  have b : tkS f N e ≤ N := (run_b (c := cSp f) h).2.1
  obtain ⟨d1, d2, d3⟩ := run_b (c := cLt f) b
  obtain ⟨a1, a2⟩ := lt_ok (f := f) (st := tkS f N e) (run (cLt f) N (tkS f N e) - tkS f N e) (fun i h1 h2 => d3 i h1 (by omega))
  refine ⟨?_, a2⟩
  unfold tkW
  rw [a1]
  unfold tkK at hk
  repeat' split at hk
  all_goals first | omega | skip
theorem tkV_ok {f : Nat → Int32} {N e : Nat} (h : e ≤ N) (hk : tkK f N e = 2) : tkV f N e < 1000 := by
  have b : tkS f N e ≤ N := (run_b (c := cSp f) h).2.1
  obtain ⟨d1, d2, d3⟩ := run_b (c := cDg f) b
  have a1 := vl_b (f := f) (st := tkS f N e) (run (cDg f) N (tkS f N e) - tkS f N e) (fun i h1 h2 => d3 i h1 (by omega))
  have h3 : run (cDg f) N (tkS f N e) - tkS f N e ≤ 3 := by
    unfold tkK at hk
    repeat' split at hk
    all_goals first | omega | skip
  have : 10 ^ (run (cDg f) N (tkS f N e) - tkS f N e) ≤ 10 ^ 3 := Nat.pow_le_pow_right (by decide) h3
  unfold tkV
  omega
