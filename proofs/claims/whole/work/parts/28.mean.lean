/-! MATHEMATICS of nights by chance: the class's mean and the reference's -/
/-- how likely just a set dies of those who live; of 'whN' in all -/
def paN (C : Cty) (s : Sta) (t : Nat) : Nat := pr (fun p => if tb (lv s) p then (if tb t p then dz C p else 100 - dz C p) else 1) 6
def whN (s : Sta) : Nat := pr (fun p => if tb (lv s) p then 100 else 1) 6
def reN (s : Sta) : Nat := pr (fun p => if tb (lv s) p then 1 else 100) 6
theorem wh_re (s : Sta) : whN s * reN s = 1000000000000 := by
  unfold whN reN
  rw [← pr_mul, pr_congr (g := fun _ => 100) (fun i _ => by cases tb (lv s) i <;> rfl)]
  rfl
theorem sub_le {t l : Nat} (h : sub t l) : t ≤ l := by
  have : t = t &&& l := Nat.eq_of_testBit_eq (fun i => by
    rw [Nat.testBit_and]
    cases e : t.testBit i
    · rfl
    · rw [show l.testBit i = true from h i e]
      rfl)
  rw [this]
  exact Nat.and_le_right
/-- weights of all sets of the living in which B dies and those of T don't -/
def gW (C : Cty) (s : Sta) (B T : Nat) (i : Nat) (b : Bool) : Nat :=
  if tb (lv s) i then (if b then (if tb T i then 0 else dz C i) else (if tb B i then 0 else 100 - dz C i)) else (if b then 0 else 1)
theorem pr_ind {f : Nat → Nat} {k : Nat} {P : Nat → Prop} (h0 : ∀ i, i < k → ¬ P i → f i = 0) (h : ¬ ∀ i, i < k → P i) : pr f k = 0 := by
  false_or_by_contra
  rename_i hne
  apply h
  intro i hi
  false_or_by_contra
  rename_i hn
  exact hne (pr_zero hi (h0 i hi hn))
/-- which sets count -/
def cnt (s : Sta) (B T t : Nat) : Prop := ∀ i, i < 6 → (tb t i = true → tb (lv s) i = true ∧ tb T i = false) ∧ (tb (lv s) i = true → tb B i = true → tb t i = true)
theorem gW_yes {C : Cty} {s : Sta} {B T t : Nat} (h : cnt s B T t) : wt (gW C s B T) 6 t = paN C s t := by
  unfold wt paN
  refine pr_congr (fun i hi => ?_)
  obtain ⟨h1, h2⟩ := h i hi
  unfold gW
  cases e : tb t i
  · cases e2 : tb (lv s) i
    · rfl
    · cases e3 : tb B i
      · simp
      · rw [h2 e2 e3] at e
        cases e
  · obtain ⟨h3, h4⟩ := h1 e
    rw [h3, h4]
    simp
theorem gW_no {C : Cty} {s : Sta} {B T t : Nat} (h : ¬ cnt s B T t) : wt (gW C s B T) 6 t = 0 := by
  unfold wt
  refine pr_ind (P := fun i => (tb t i = true → tb (lv s) i = true ∧ tb T i = false) ∧ (tb (lv s) i = true → tb B i = true → tb t i = true)) (fun i hi hn => ?_) h
  unfold gW
  cases e : tb t i
  · cases e2 : tb (lv s) i
    · exact absurd ⟨fun h => absurd (e ▸ h) (by simp), fun h => absurd (e2 ▸ h) (by simp)⟩ hn
    · cases e3 : tb B i
      · exact absurd ⟨fun h => absurd (e ▸ h) (by simp), fun _ h => absurd (e3 ▸ h) (by simp)⟩ hn
      · simp
  · cases e2 : tb (lv s) i
    · simp
    · cases e3 : tb T i
      · exact absurd ⟨fun _ => ⟨e2, e3⟩, fun _ _ => e⟩ hn
      · simp
/-- the sum over all sets that count, made whole again: 'lik' -/
theorem gW_lik {C : Cty} {s : Sta} {B T : Nat} (hO : OkC C) (hk : Ok (pe C) s) (hB : ∀ i, tb B i = true → tb (lv s) i = true) (hT : ∀ i, tb T i = true → tb (lv s) i = true ∧ tb B i = false) : sm (wt (gW C s B T) 6) 64 * reN s = lik C B T := by
  rw [show (64 : Nat) = 2 ^ 6 from rfl, wt_sum]
  unfold reN lik
  rw [← pr_mul]
  refine pr_congr (fun i hi => ?_)
  unfold gW
  cases e : tb (lv s) i
  · have e1 : tb B i = false := by
      rw [Bool.eq_false_iff]
      intro h
      rw [hB i h] at e
      cases e
    have e2 : tb T i = false := by
      rw [Bool.eq_false_iff]
      intro h
      rw [(hT i h).1] at e
      cases e
    simp [e1, e2]
  · have hd := (hO.2.1 i (hk.lvn e)).2.2
    cases e1 : tb B i
    · cases e2 : tb T i
      · simp
        omega
      · simp
    · cases e2 : tb T i
      · simp
      · rw [(hT i e2).2] at e1
        cases e1
theorem btF_not {h : Nat → Option Nat} {to : Nat} : ∀ k d a B, btF h to k d a = some B → tb d to = false → tb B to = false := by
  intro k
  induction k with
  | zero => intro d a B e; cases e
  | succ k ih =>
    intro d a B e hd
    cases a with
    | none => cases e
    | some a =>
      unfold btF at e
      split at e
      · cases e
        exact hd
      · rename_i hne
        refine ih _ _ _ e ?_
        rw [tb_or, hd, decide_eq_false (fun h => hne h.symm)]
        rfl
/-- where all of q goes, told by those between -/
theorem en_bw {s : Sta} {t p q : Nat} (hp : tb t p = false) (hq : tb t q = true) (hq6 : q < 6) : enN s t q = some p ↔ ∃ B, bwN s q p = some B ∧ sub B t :=
  endF_bt (hN_6 s) hp 6 0 q hq6 (by omega) (tb_0 q) hq (fun i hi => by rw [tb_0] at hi; cases hi) (fun x hx => by rw [tb_0] at hx; cases hx) (by omega)
theorem en_uc {s : Sta} {t q : Nat} (hq : tb t q = true) (hq6 : q < 6) : enN s t q = none ↔ sub (ucN s q) t :=
  endF_ut (hN_6 s) 6 0 q hq6 (by omega) (tb_0 q) hq (fun i hi => by rw [tb_0] at hi; cases hi) (fun x hx => by rw [tb_0] at hx; cases hx) (by omega)
/-- the reference's sum -/
def msQ (C : Cty) (s : Sta) (p t : Nat) : Nat := if lset s (nI t) then paN C s t * hasB s t p else 0
def msN (C : Cty) (s : Sta) (p : Nat) : Nat := sm (msQ C s p) 64
/-- what comes from q -/
def fromQ (s : Sta) (p t q : Nat) : Nat := if q = p then hs s p else if tb t q && decide (enN s t q = some p) then hs s q else 0
theorem hasB_from {s : Sta} {p t : Nat} (hp : p < 6) (ht : tb t p = false) : hasB s t p = sm (fromQ s p t) 6 := by
  unfold hasB gets
  rw [if_neg (by rw [ht]; simp)]
  have e : hs s p = sm (fun q => if q = p then hs s p else 0) 6 := by
    rw [sm_one hp (fun i _ h => if_neg h), if_pos rfl]
  rw [e, ← sm_add]
  refine sm_congr (fun q _ => ?_)
  unfold fromQ
  by_cases e1 : q = p
  · rw [if_pos e1, if_pos e1, e1, ht]
    simp
  · rw [if_neg e1, if_neg e1]
    omega
/-- one's part in the reference's sum -/
theorem ms_part {C : Cty} {s : Sta} (hO : OkC C) (hk : Ok (pe C) s) {p q : Nat} (hp : tb (lv s) p = true) (hq6 : q < 6) : sm (fun t => if lset s (nI t) && !tb t p then paN C s t * fromQ s p t q else 0) 64 * reN s = meQ C s p q := by
  have hpn := hk.lvn hp
  have h6 := hk.1
  have hp6 : p < 6 := by omega
  unfold meQ
  rw [hp]
  cases eq : tb (lv s) q
  · -- the dead leave nothing
    have hqp : q ≠ p := fun e => by rw [e, hp] at eq; cases eq
    rw [sm_congr (g := fun _ => 0), sm_zero]
    · simp
    · intro t ht
      split
      · rename_i hc
        rw [Bool.and_eq_true] at hc
        have hsub := (lset_nI hk.lv64 ht).mp hc.1
        have : tb t q = false := by
          rw [Bool.eq_false_iff]
          intro h
          rw [hsub q h] at eq
          cases eq
        unfold fromQ
        rw [if_neg hqp, this]
        simp
      · rfl
  · simp only [Bool.and_self, if_true]
    cases eb : bwN s q p with
    | none =>
      have hqp : q ≠ p := fun e => by
        rw [e] at eb
        unfold bwN btF at eb
        rw [if_pos rfl] at eb
        cases eb
      rw [sm_congr (g := fun _ => 0), sm_zero]
      · simp
      · intro t ht
        split
        · rename_i hc
          rw [Bool.and_eq_true] at hc
          unfold fromQ
          rw [if_neg hqp]
          cases e1 : tb t q
          · simp
          · rw [if_neg]
            · simp
            · intro h
              rw [Bool.and_eq_true, decide_eq_true_eq, en_bw (by simpa using hc.2) e1 hq6] at h
              obtain ⟨-, B, hB, -⟩ := h
              rw [eb] at hB
              cases hB
        · rfl
    | some B =>
      obtain ⟨b64, bl⟩ := bw_live eb hq6 eq
      have hBp : tb B p = false := btF_not _ _ _ _ eb (tb_0 p)
      simp only
      rw [← gW_lik (T := 2 ^ p) hO hk bl (fun i hi => by
        rw [tb_pow, decide_eq_true_eq] at hi
        rw [hi]
        exact ⟨hp, hBp⟩), ← Nat.mul_assoc, ← sm_mul]
      congr 1
      refine sm_congr (fun t ht => ?_)
      by_cases hc : cnt s B (2 ^ p) t
      · rw [gW_yes hc]
        have hsub : sub t (lv s) := fun i hi => by
          by_cases h : i < 6
          · exact ((hc i h).1 hi).1
          · rw [tb_lt (k := 6) ht (by omega)] at hi
            cases hi
        have htp : tb t p = false := by
          rw [Bool.eq_false_iff]
          intro h
          have := ((hc p hp6).1 h).2
          rw [tb_pow] at this
          simp at this
        have hBt : sub B t := fun i hi => by
          by_cases h : i < 6
          · exact (hc i h).2 (bl i hi) hi
          · rw [tb_lt (k := 6) b64 (by omega)] at hi
            cases hi
        rw [(lset_nI hk.lv64 ht).mpr hsub, htp]
        simp only [Bool.not_false, Bool.and_self, if_true]
        rw [Nat.mul_comm]
        congr 1
        unfold fromQ
        by_cases e1 : q = p
        · rw [if_pos e1, e1]
        · have hqt : tb t q = true := hBt q ((btF_sub _ _ _ _ eb).2 q rfl e1)
          rw [if_neg e1, hqt, decide_eq_true ((en_bw htp hqt hq6).mpr ⟨B, eb, hBt⟩)]
          simp
      · rw [gW_no hc, Nat.mul_zero]
        split
        · rename_i hl
          rw [Bool.and_eq_true, Bool.not_eq_true'] at hl
          have hsub := (lset_nI hk.lv64 ht).mp hl.1
          have hnB : ¬ sub B t := fun hB => hc (fun i hi => ⟨fun h => ⟨hsub i h, by
            rw [tb_pow, decide_eq_false_iff_not]
            intro e
            rw [e, hl.2] at h
            cases h⟩, fun _ h => hB i h⟩)
          unfold fromQ
          by_cases e1 : q = p
          · exfalso
            apply hnB
            rw [e1] at eb
            unfold bwN btF at eb
            rw [if_pos rfl] at eb
            cases eb
            intro i hi
            rw [tb_0] at hi
            cases hi
          · rw [if_neg e1]
            cases e2 : tb t q
            · simp
            · rw [if_neg]
              · simp
              · intro h
                rw [Bool.and_eq_true, decide_eq_true_eq, en_bw hl.2 e2 hq6] at h
                obtain ⟨-, B', hB', hs'⟩ := h
                rw [eb] at hB'
                cases hB'
                exact hnB hs'
        · rfl
/-- the two means are one -/
theorem me_ms {C : Cty} {s : Sta} (hO : OkC C) (hk : Ok (pe C) s) {p : Nat} (hp : tb (lv s) p = true) : msN C s p * reN s = meN C s p := by
  have hpn := hk.lvn hp
  have h6 := hk.1
  have hp6 : p < 6 := by omega
  unfold meN
  rw [sm_congr (g := fun q => sm (fun t => if lset s (nI t) && !tb t p then paN C s t * fromQ s p t q else 0) 64 * reN s) (fun q hq => (ms_part hO hk hp hq).symm), sm_mulr, ← sm_swap]
  congr 1
  unfold msN
  refine sm_congr (fun t ht => ?_)
  unfold msQ
  cases e1 : lset s (nI t)
  · simp [sm_zero]
  · cases e2 : tb t p
    · simp only [Bool.not_false, Bool.and_self, if_true]
      rw [sm_mul, hasB_from hp6 e2]
    · unfold hasB
      rw [if_pos e2]
      simp [sm_zero]
/-- the dead have no mean -/
theorem me_dead {C : Cty} {s : Sta} {p : Nat} (hp : tb (lv s) p = false) : meN C s p = 0 := by
  unfold meN
  rw [sm_congr (g := fun _ => 0), sm_zero]
  intro q _
  unfold meQ
  rw [hp]
  rfl
theorem lik_le {C : Cty} (hO : OkC C) {d t : Nat} (hd : ∀ p, tb d p = true → p < pe C) : lik C d t ≤ 1000000000000 := by
  unfold lik
  refine Nat.le_trans (pr_le (g := fun _ => 100) (fun i _ => ?_)) (by decide)
  split
  · rename_i h
    exact (hO.2.1 i (hd i h)).2.2
  · split
    · omega
    · exact Nat.le_refl _
theorem me_le {C : Cty} {s : Sta} (hO : OkC C) (hk : Ok (pe C) s) (p : Nat) : meN C s p ≤ 594 * 1000000000000 := by
  have h6 := hk.1
  have h1 : meN C s p ≤ sm (fun q => (if decide (q < pe C) then hs s q else 0) * 1000000000000) 6 := by
    unfold meN
    refine sm_le (fun q hq => ?_)
    unfold meQ
    split
    · rename_i hc
      rw [Bool.and_eq_true] at hc
      rw [if_pos (decide_eq_true (hk.lvn hc.2))]
      split
      · exact Nat.zero_le _
      · rename_i B hB
        obtain ⟨b1, b2⟩ := bw_live hB hq hc.2
        exact Nat.mul_le_mul_left _ (lik_le hO (fun x hx => hk.lvn (b2 x hx)))
    · exact Nat.zero_le _
  rw [sm_mulr] at h1
  have h2 : sm (fun q => if decide (q < pe C) then hs s q else 0) 6 = sm (hs s) (pe C) := by
    rw [sm_more (a := pe C) h6 (fun i h1 _ => by rw [if_neg (by simp; omega)])]
    exact sm_congr (fun i hi => by rw [if_pos (decide_eq_true hi)])
  have h3 := hk.2.2.2.1
  rw [h2] at h1
  exact Nat.le_trans h1 (Nat.mul_le_mul_right _ (by omega))
/-- a fraction in lowest terms -/
def fra (m w : Nat) (b : Int32) : Nat := if b = 0 then m / Nat.gcd m w else w / Nat.gcd m w
theorem fra_mul {m w r : Nat} (hr : 0 < r) (b : Int32) : fra (m * r) (w * r) b = fra m w b := by
  unfold fra
  rw [Nat.gcd_mul_right, Nat.mul_div_mul_right _ _ hr, Nat.mul_div_mul_right _ _ hr]
theorem fra_sure {s : Sta} {m : Nat} (b : Int32) : fra (m * reN s) 1000000000000 b = fra m (whN s) b := by
  rw [← wh_re s]
  refine fra_mul (pr_pos (fun i _ => ?_)) b
  split <;> omega
theorem fra_0 {w : Nat} (hw : 0 < w) (b : Int32) : fra 0 w b = fra 0 1 b := by
  unfold fra
  rw [Nat.gcd_zero_left, Nat.gcd_zero_left, Nat.div_self hw, Nat.zero_div, Nat.zero_div]
/-- the odds -/
theorem odd_part {C : Cty} {s : Sta} (hO : OkC C) (hk : Ok (pe C) s) {t : Nat} (ht : t < 64) (hsub : sub t (lv s)) : paN C s t * reN s = lik C t (dif (lv s) t) := by
  unfold paN reN lik
  rw [← pr_mul]
  refine pr_congr (fun i hi => ?_)
  rw [tb_dif ht hi]
  cases e : tb (lv s) i
  · have : tb t i = false := by
      rw [Bool.eq_false_iff]
      intro h
      rw [hsub i h] at e
      cases e
    simp [this]
  · cases e1 : tb t i <;> simp
def osN (C : Cty) (s : Sta) (p much : Nat) : Nat := sm (fun t => if lset s (nI t) then (if much ≤ hasB s t p then paN C s t else 0) else 0) 64
theorem od_os {C : Cty} {s : Sta} (hO : OkC C) (hk : Ok (pe C) s) {p much : Nat} (hm : much ≠ 0) : osN C s p much * reN s = sm (oddQ C s p much) 64 := by
  unfold osN
  rw [← sm_mulr]
  refine sm_congr (fun t ht => ?_)
  unfold oddQ
  cases e1 : lset s (nI t)
  · simp
  · have hsub := (lset_nI hk.lv64 ht).mp e1
    simp only [if_true, Bool.true_and]
    by_cases e2 : much ≤ hasB s t p
    · have e3 : tb t p = false := by
        cases e3 : tb t p
        · rfl
        · unfold hasB at e2
          rw [if_pos e3] at e2
          omega
      rw [if_pos e2, e3, decide_eq_true e2]
      simp only [Bool.not_false, Bool.and_self, if_true]
      exact odd_part hO hk ht hsub
    · rw [if_neg e2, decide_eq_false e2]
      simp
theorem pa_sum {C : Cty} {s : Sta} (hO : OkC C) (hk : Ok (pe C) s) : sm (fun t => if lset s (nI t) then paN C s t else 0) 64 * reN s = 1000000000000 := by
  have h := gW_lik (B := 0) (T := 0) hO hk (fun i hi => by rw [tb_0] at hi; cases hi) (fun i hi => by rw [tb_0] at hi; cases hi)
  have e : lik C 0 0 = 1000000000000 := by
    unfold lik
    rw [pr_congr (g := fun _ => 100) (fun i _ => by rw [tb_0]; rfl)]
    rfl
  rw [e] at h
  rw [← h]
  congr 1
  refine sm_congr (fun t ht => ?_)
  by_cases hc : cnt s 0 0 t
  · rw [gW_yes hc, (lset_nI hk.lv64 ht).mpr (fun i hi => ?_)]
    · rfl
    · by_cases h : i < 6
      · exact ((hc i h).1 hi).1
      · rw [tb_lt (k := 6) ht (by omega)] at hi
        cases hi
  · rw [gW_no hc]
    cases e1 : lset s (nI t)
    · simp
    · exfalso
      have hsub := (lset_nI hk.lv64 ht).mp e1
      exact hc (fun i _ => ⟨fun h => ⟨hsub i h, tb_0 i⟩, fun _ h => by rw [tb_0] at h; cases h⟩)
/-- the odds of nothing at all -/
theorem os_0 {C : Cty} {s : Sta} (hO : OkC C) (hk : Ok (pe C) s) (p : Nat) : osN C s p 0 * reN s = 1000000000000 := by
  rw [← pa_sum hO hk]
  congr 1
theorem os_dead {C : Cty} {s : Sta} (hk : Ok (pe C) s) {p much : Nat} (hp : p < pe C) (hl : tb (lv s) p = false) (hm : much ≠ 0) : osN C s p much = 0 := by
  unfold osN
  rw [sm_congr (g := fun _ => 0), sm_zero]
  intro t ht
  have : hasB s t p = 0 := by
    unfold hasB
    split
    · rfl
    · rw [hk.2.2.1 p hp hl]
      unfold gets
      rw [sm_congr (g := fun _ => 0), sm_zero]
      intro q _
      rw [if_neg]
      intro h
      rw [Bool.and_eq_true, decide_eq_true_eq] at h
      have := en_live _ _ _ _ h.2
      rw [hl] at this
      cases this
  rw [this, if_neg (show ¬ much ≤ 0 by omega)]
  simp
/-- passes -/
def psN (C : Cty) (s : Sta) (p q : Nat) : Nat := sm (fun t => if lset s (nI t) && (tb t p && decide (enN s t p = some q)) then paN C s t else 0) 64
theorem ps_lik {C : Cty} {s : Sta} (hO : OkC C) (hk : Ok (pe C) s) {p q : Nat} (hp : p < 6) (hpq : p ≠ q) : psN C s p q * reN s = (if tb (lv s) p then (match bwN s p q with | none => 0 | some B => lik C B (2 ^ q)) else 0) := by
  cases ep : tb (lv s) p
  · rw [if_neg (by simp)]
    unfold psN
    rw [sm_congr (g := fun _ => 0), sm_zero, Nat.zero_mul]
    intro t ht
    rw [if_neg]
    intro h
    rw [Bool.and_eq_true, Bool.and_eq_true] at h
    rw [(lset_nI hk.lv64 ht).mp h.1 p h.2.1] at ep
    cases ep
  · rw [if_pos rfl]
    cases eb : bwN s p q with
    | none =>
      unfold psN
      simp only
      rw [sm_congr (g := fun _ => 0), sm_zero, Nat.zero_mul]
      intro t ht
      rw [if_neg]
      intro h
      simp only [Bool.and_eq_true, decide_eq_true_eq] at h
      rw [en_bw (endF_out _ _ _ _ h.2.2) h.2.1 hp] at h
      obtain ⟨-, -, B, hB, -⟩ := h
      rw [eb] at hB
      cases hB
    | some B =>
      obtain ⟨b64, bl⟩ := bw_live eb hp ep
      have hBq : tb B q = false := btF_not _ _ _ _ eb (tb_0 q)
      have hql : tb (lv s) q = true := by
        have : ∀ k d a B, btF (hN s) q k d a = some B → (∀ x, a = some x → x = q → tb (lv s) q = true) → tb (lv s) q = true := by
          intro k
          induction k with
          | zero => intro d a B e; cases e
          | succ k ih =>
            intro d a B e ha
            cases a with
            | none => cases e
            | some a =>
              unfold btF at e
              split at e
              · rename_i h
                exact ha a rfl h
              · exact ih _ _ _ e (fun x hx hxq => hxq ▸ (hN_ok hx).2.2)
        exact this _ _ _ _ eb (fun x hx hxq => by cases hx; exact absurd hxq hpq)
      simp only
      rw [← gW_lik (T := 2 ^ q) hO hk bl (fun i hi => by
        rw [tb_pow, decide_eq_true_eq] at hi
        rw [hi]
        exact ⟨hql, hBq⟩)]
      congr 1
      unfold psN
      refine sm_congr (fun t ht => ?_)
      by_cases hc : cnt s B (2 ^ q) t
      · rw [gW_yes hc]
        have hsub : sub t (lv s) := fun i hi => by
          by_cases h : i < 6
          · exact ((hc i h).1 hi).1
          · rw [tb_lt (k := 6) ht (by omega)] at hi
            cases hi
        have htq : tb t q = false := by
          rw [Bool.eq_false_iff]
          intro h
          have hq6 : q < 6 := by have := hk.1; have := hk.lvn hql; omega
          have := ((hc q hq6).1 h).2
          rw [tb_pow] at this
          simp at this
        have hBt : sub B t := fun i hi => by
          by_cases h : i < 6
          · exact (hc i h).2 (bl i hi) hi
          · rw [tb_lt (k := 6) b64 (by omega)] at hi
            cases hi
        have hpt : tb t p = true := hBt p ((btF_sub _ _ _ _ eb).2 p rfl hpq)
        rw [(lset_nI hk.lv64 ht).mpr hsub, hpt, decide_eq_true ((en_bw htq hpt hp).mpr ⟨B, eb, hBt⟩)]
        rfl
      · rw [gW_no hc, if_neg]
        intro h
        simp only [Bool.and_eq_true, decide_eq_true_eq] at h
        have htq := endF_out _ _ _ _ h.2.2
        rw [en_bw htq h.2.1 hp] at h
        obtain ⟨h1, h2, B', hB', hs'⟩ := h
        rw [eb] at hB'
        cases hB'
        have hsub := (lset_nI hk.lv64 ht).mp h1
        exact hc (fun i hi => ⟨fun h => ⟨hsub i h, by
          rw [tb_pow, decide_eq_false_iff_not]
          intro e
          rw [e, htq] at h
          cases h⟩, fun _ h => hs' i h⟩)
/-- the cat's mean -/
def cmN (C : Cty) (s : Sta) : Nat := sm (fun t => if lset s (nI t) then paN C s t * catT s t else 0) 64
def cmQ (C : Cty) (s : Sta) (q : Nat) : Nat := if tb (lv s) q then hs s q * lik C (ucN s q) 0 else 0
theorem utF_live {s : Sta} : ∀ k d a, d < 64 → (∀ x, tb d x = true → tb (lv s) x = true) → (∀ x, a = some x → x < 6 ∧ tb (lv s) x = true) → utF (hN s) k d a < 64 ∧ ∀ x, tb (utF (hN s) k d a) x = true → tb (lv s) x = true := by
  intro k
  induction k with
  | zero => intro d a hd h1 _; exact ⟨hd, h1⟩
  | succ k ih =>
    intro d a hd h1 h2
    cases a with
    | none => exact ⟨hd, h1⟩
    | some a =>
      obtain ⟨a6, al⟩ := h2 a rfl
      unfold utF
      refine ih _ _ (or_lt hd a6) (fun x hx => ?_) (fun x hx => ?_)
      · rw [tb_or, Bool.or_eq_true, decide_eq_true_eq] at hx
        rcases hx with hx | rfl
        · exact h1 x hx
        · exact al
      · exact ⟨(hN_ok hx).1, (hN_ok hx).2.2⟩
theorem uc_live {s : Sta} {q : Nat} (hq : q < 6) (hl : tb (lv s) q = true) : ucN s q < 64 ∧ ∀ x, tb (ucN s q) x = true → tb (lv s) x = true :=
  utF_live _ _ _ (by omega) (fun x hx => by rw [tb_0] at hx; cases hx) (fun x e => by cases e; exact ⟨hq, hl⟩)
theorem uc_self {s : Sta} {q : Nat} : tb (ucN s q) q = true := by
  unfold ucN utF
  exact utF_sub _ _ _ q (by rw [tb_or]; simp)
theorem cm_part {C : Cty} {s : Sta} (hO : OkC C) (hk : Ok (pe C) s) {q : Nat} (hq : q < 6) : sm (fun t => if lset s (nI t) then paN C s t * (if tb t q && decide (enN s t q = none) then hs s q else 0) else 0) 64 * reN s = cmQ C s q := by
  unfold cmQ
  cases eq : tb (lv s) q
  · rw [sm_congr (g := fun _ => 0), sm_zero]
    · simp
    · intro t ht
      split
      · rename_i hc
        have hsub := (lset_nI hk.lv64 ht).mp hc
        have : tb t q = false := by
          rw [Bool.eq_false_iff]
          intro h
          rw [hsub q h] at eq
          cases eq
        rw [this]
        simp
      · rfl
  · obtain ⟨u64, ul⟩ := uc_live hq eq
    rw [if_pos rfl, ← gW_lik (B := ucN s q) (T := 0) hO hk ul (fun i hi => by rw [tb_0] at hi; cases hi), ← Nat.mul_assoc, ← sm_mul]
    congr 1
    refine sm_congr (fun t ht => ?_)
    by_cases hc : cnt s (ucN s q) 0 t
    · rw [gW_yes hc]
      have hsub : sub t (lv s) := fun i hi => by
        by_cases h : i < 6
        · exact ((hc i h).1 hi).1
        · rw [tb_lt (k := 6) ht (by omega)] at hi
          cases hi
      have hUt : sub (ucN s q) t := fun i hi => by
        by_cases h : i < 6
        · exact (hc i h).2 (ul i hi) hi
        · rw [tb_lt (k := 6) u64 (by omega)] at hi
          cases hi
      have hqt := hUt q uc_self
      rw [(lset_nI hk.lv64 ht).mpr hsub, hqt, decide_eq_true ((en_uc hqt hq).mpr hUt), if_pos rfl, Nat.mul_comm]
      rfl
    · rw [gW_no hc, Nat.mul_zero]
      split
      · rename_i hl
        have hsub := (lset_nI hk.lv64 ht).mp hl
        rw [if_neg, Nat.mul_zero]
        intro h
        rw [Bool.and_eq_true, decide_eq_true_eq] at h
        rw [en_uc h.1 hq] at h
        exact hc (fun i _ => ⟨fun h2 => ⟨hsub i h2, tb_0 i⟩, fun _ h2 => h.2 i h2⟩)
      · rfl
theorem cm_cq {C : Cty} {s : Sta} (hO : OkC C) (hk : Ok (pe C) s) : cmN C s * reN s = sm (cmQ C s) 6 := by
  rw [sm_congr (g := fun q => sm (fun t => if lset s (nI t) then paN C s t * (if tb t q && decide (enN s t q = none) then hs s q else 0) else 0) 64 * reN s) (fun q hq => (cm_part hO hk hq).symm), sm_mulr, ← sm_swap]
  congr 1
  unfold cmN
  refine sm_congr (fun t ht => ?_)
  cases e1 : lset s (nI t)
  · simp [sm_zero]
  · simp only [if_true]
    rw [sm_mul]
    rfl
