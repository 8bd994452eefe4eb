/-! THE ABSTRACT: a state (what each has, register, who lives, the cat's, hour, nights, seed), a city; how the cells bear them; the class's leaves -/
abbrev Sta : Type := (Nat → Nat) × (Nat → Nat → Option Nat) × Nat × Nat × Nat × Nat × Nat
def hs (s : Sta) : Nat → Nat := s.1
def rg (s : Sta) : Nat → Nat → Option Nat := s.2.1
def lv (s : Sta) : Nat := s.2.2.1
def ct (s : Sta) : Nat := s.2.2.2.1
def hr (s : Sta) : Nat := s.2.2.2.2.1
def ng (s : Sta) : Nat := s.2.2.2.2.2.1
def sd (s : Sta) : Nat := s.2.2.2.2.2.2
def rC (r : Option Nat) : Int32 := match r with
  | none => -2
  | some h => nI h
def rM (r : Option Nat) : Int32 := match r with
  | none => -1
  | some h => nI h
/-- the class's State at a -/
def cS (σ : xM) (a n : Nat) (s : Sta) : Prop := (∀ p, p < n → mI σ (a + 1) p = nI (hs s p)) ∧ (∀ p, p < 6 → ∀ q, q < 6 → mI σ (a + 2) (p * 6 + q) = rC (rg s p q)) ∧ mI σ a 4 = nI (lv s) ∧ mI σ a 3 = nI (ct s) ∧ mI σ a 0 = nI (hr s) ∧ mI σ a 2 = nI (ng s) ∧ mI σ a 1 = nI (sd s)
/-- a row of the reference's -/
def mrow (f : Nat → Int32) (n : Nat) (s : Sta) : Prop := (∀ p, p < n → f p = nI (hs s p)) ∧ (∀ p, p < 6 → ∀ q, q < 6 → f (6 + 6 * p + q) = rM (rg s p q)) ∧ f 42 = nI (lv s) ∧ f 43 = nI (ct s) ∧ f 44 = nI (hr s) ∧ f 45 = nI (ng s) ∧ f 46 = nI (sd s)
/-- what is so of every state -/
def Ok (n : Nat) (s : Sta) : Prop := n ≤ 6 ∧ lv s < 2 ^ n ∧ (∀ p, p < n → tb (lv s) p = false → hs s p = 0) ∧ sm (hs s) n + ct s ≤ 594 ∧ hr s ≤ 2000 ∧ (∀ p q h, rg s p q = some h → h ≤ hr s) ∧ ng s ≤ 999 ∧ sd s ≤ 65536 ∧ (∀ p, p < n → rg s p p = none)
theorem Ok.lv64 {n : Nat} {s : Sta} (h : Ok n s) : lv s < 64 := Nat.lt_of_lt_of_le h.2.1 (Nat.pow_le_pow_right (by omega) h.1)
theorem Ok.lvn {n : Nat} {s : Sta} (h : Ok n s) {p : Nat} (hp : tb (lv s) p = true) : p < n := by
  rcases Nat.lt_or_ge p n with h1 | h1
  · exact h1
  · rw [tb_lt h.2.1 h1] at hp
    cases hp
theorem Ok.has {n : Nat} {s : Sta} (h : Ok n s) {p : Nat} (hp : p < n) : hs s p ≤ 594 := by
  have h1 := h.2.2.2.1
  have h2 := sm_ge (f := hs s) hp
  omega
abbrev Cty : Type := Nat × (Nat → Nat) × (Nat → Nat) × (Nat → Nat) × (Nat → Nat) × (Nat → Option (Option Nat)) × (Nat → Nat → Option Nat) × Nat × Nat × (Nat × Nat × Nat × Nat) × (Nat → Nat) × (Nat → Nat) × (Nat → Nat)
def pe (C : Cty) : Nat := C.1
def kd (C : Cty) : Nat → Nat := C.2.1
def h0 (C : Cty) : Nat → Nat := C.2.2.1
def dz (C : Cty) : Nat → Nat := C.2.2.2.1
def nr (C : Cty) : Nat → Nat := C.2.2.2.2.1
def wn (C : Cty) : Nat → Option (Option Nat) := C.2.2.2.2.2.1
def r0 (C : Cty) : Nat → Nat → Option Nat := C.2.2.2.2.2.2.1
def hr0 (C : Cty) : Nat := C.2.2.2.2.2.2.2.1
def gv (C : Cty) : Nat := C.2.2.2.2.2.2.2.2.1
def nNe (C : Cty) : Nat := C.2.2.2.2.2.2.2.2.2.1.1
def nAs (C : Cty) : Nat := C.2.2.2.2.2.2.2.2.2.1.2.1
def nHe (C : Cty) : Nat := C.2.2.2.2.2.2.2.2.2.1.2.2.1
def nWe (C : Cty) : Nat := C.2.2.2.2.2.2.2.2.2.1.2.2.2
def hb (C : Cty) : Nat → Nat := C.2.2.2.2.2.2.2.2.2.2.1
def ho (C : Cty) : Nat → Nat := C.2.2.2.2.2.2.2.2.2.2.2.1
def hg (C : Cty) : Nat → Nat := C.2.2.2.2.2.2.2.2.2.2.2.2
def wC (w : Option (Option Nat)) : Int32 := match w with
  | none => -3
  | some none => -2
  | some (some q) => nI q
def wM (w : Option (Option Nat)) : Int32 := match w with
  | none => -1
  | some none => -2
  | some (some q) => nI q
/-- the class's City at b (its arrays b + 1 .. b + 10) -/
def cC (σ : xM) (b : Nat) (C : Cty) : Prop := (mI σ b 0 = nI (hr0 C) ∧ mI σ b 1 = nI (gv C) ∧ mI σ b 2 = nI (pe C) ∧ mI σ b 3 = nI (nNe C) ∧ mI σ b 4 = nI (nAs C) ∧ mI σ b 5 = nI (nHe C) ∧ mI σ b 6 = nI (nWe C)) ∧ (∀ p, p < pe C → mI σ (b + 1) p = nI (kd C p) ∧ mI σ (b + 2) p = nI (h0 C p) ∧ mI σ (b + 3) p = nI (dz C p)) ∧ (∀ p, p < 6 → mI σ (b + 4) p = nI (nr C p) ∧ mI σ (b + 5) p = wC (wn C p)) ∧ (∀ p, p < 6 → ∀ q, q < 6 → mI σ (b + 6) (p * 6 + q) = rC (r0 C p q)) ∧ (∀ k, k < nHe C → mI σ (b + 8) k = nI (hb C k * 6 + ho C k) ∧ mI σ (b + 9) k = rC (r0 C (hb C k) (ho C k)) ∧ mI σ (b + 10) k = nI (hg C k))
/-- what is so of every city -/
def OkC (C : Cty) : Prop := pe C ≤ 6 ∧ (∀ p, p < pe C → kd C p ≤ 3 ∧ h0 C p ≤ 99 ∧ dz C p ≤ 100) ∧ (∀ p, p < 6 → nr C p < 2 ^ pe C) ∧ (∀ p q, tb (nr C p) q = tb (nr C q) p) ∧ (∀ p, tb (nr C p) p = false) ∧ (∀ p q, wn C p = some (some q) → q < pe C) ∧ (∀ p, pe C ≤ p → wn C p = none) ∧ (∀ p q h, r0 C p q = some h → p < pe C ∧ q < pe C ∧ h ≤ hr0 C) ∧ (∀ p, r0 C p p = none) ∧ hr0 C ≤ 99 ∧ gv C ≤ 9 ∧ nHe C ≤ 3 ∧ (∀ k, k < nHe C → hb C k < pe C ∧ ho C k < pe C ∧ hg C k ≤ 3 ∧ ∃ h, r0 C (hb C k) (ho C k) = some h)
theorem OkC.nr64 {C : Cty} (h : OkC C) {p : Nat} (hp : p < 6) : nr C p < 64 := Nat.lt_of_lt_of_le (h.2.2.1 p hp) (Nat.pow_le_pow_right (by omega) h.1)
-- booleans
def bo (b : Bool) : Int32 := if b then 1 else 0
theorem bo_0 (b : Bool) : (bo b = 0) = (b = false) := by cases b <;> simp [bo]
theorem bo_1 (b : Bool) : (bo b = 1) = (b = true) := by cases b <;> simp [bo]
theorem bo_Z (b : Bool) (σ : xM) : rZ (bo b) σ = some (bo b, σ) := by cases b <;> rfl
theorem rZ0 (σ : xM) : rZ 0 σ = some (bo false, σ) := rfl
theorem rZ1 (σ : xM) : rZ 1 σ = some (bo true, σ) := rfl
theorem rZ1' (σ : xM) : rZ (nI 1) σ = some (bo true, σ) := rfl
theorem f124N {s p : Nat} (hs : s < 64) (hp : p < 6) (σ : xM) : f124 (nI s) (nI p) σ = some (bo (tb s p), σ) := by
  rw [f124_eq, inN s hs p hp]
  rfl
theorem f157N {s p : Nat} (hs : s < 64) (hp : p < 6) (σ : xM) : f157 (nI s) (nI p) σ = some (bo (tb s p), σ) := by
  rw [f157_eq, bitN s hs p hp]
  rfl
theorem f124out {s : Int32} {x : Int32} (h : x < 0 ∨ 6 ≤ x) (σ : xM) : f124 s x σ = some (bo false, σ) := by
  rw [f124_eq]
  unfold inF
  rcases h with h | h
  · rw [if_pos h]
    rfl
  · by_cases h2 : x < 0
    · rw [if_pos h2]
      rfl
    · rw [if_neg h2, if_pos h]
      rfl
/-- a set is gathered -/
def col (c : Nat → Bool) : Nat → Nat
  | 0 => 0
  | j + 1 => if c j then col c j ||| 2 ^ j else col c j
theorem col_lt (c : Nat → Bool) : ∀ j, j ≤ 6 → col c j < 64 := by
  intro j
  induction j with
  | zero => intro _; show 0 < 64; omega
  | succ j ih =>
    intro h
    unfold col
    split
    · exact or_lt (ih (by omega)) (by omega)
    · exact ih (by omega)
theorem tb_col (c : Nat → Bool) (i : Nat) : ∀ j, tb (col c j) i = (decide (i < j) && c i) := by
  intro j
  induction j with
  | zero => unfold col; rw [tb_0]; simp
  | succ j ih =>
    unfold col
    split
    · rename_i hc
      rw [tb_or, ih]
      by_cases e : i = j
      · subst e; simp [hc]
      · have : (i < j + 1) = (i < j) := by apply propext; omega
        simp [e, this]
    · rename_i hc
      rw [ih]
      by_cases e : i = j
      · subst e; simp [hc]
      · have : (i < j + 1) = (i < j) := by apply propext; omega
        simp [this]
theorem col_congr {c d : Nat → Bool} : ∀ {j}, (∀ i, i < j → c i = d i) → col c j = col d j := by
  intro j
  induction j with
  | zero => intro _; rfl
  | succ j ih =>
    intro h
    unfold col
    rw [ih (fun i hi => h i (by omega)), h j (by omega)]
/-- a number is a person's -/
def isP (n : Nat) (p : Int32) : Bool := decide (¬ p < 0 ∧ ¬ nI n ≤ p)
theorem isP_nI {n : Nat} {p : Int32} (hn : n ≤ 6) (h : isP n p = true) : ∃ j, j < n ∧ p = nI j := by
  unfold isP at h
  rw [decide_eq_true_eq] at h
  rcases pk_ix p (n := n) (by omega) with h1 | h1 | h1
  · exact absurd h1 h.1
  · exact absurd h1 h.2
  · exact h1
theorem isP_of {n j : Nat} (hn : n ≤ 6) (h : j < n) : isP n (nI j) = true := by
  unfold isP
  rw [decide_eq_true_eq]
  exact ⟨nI_pos (by omega), nI_ge h (by omega)⟩
/-- LastAsked.isPerson -/
theorem f116_eq {σ : xM} (hS : Sh σ) {n : Nat} (hn : n ≤ 6) (hp : mI σ 15 2 = nI n) (p : Int32) : f116 0 p σ = some (bo (isP n p), σ) := by
  unfold f116 f116_25 f116_26
  simp only [acC hS, Option.bind_some, hp, rZ0, rZ1]
  unfold isP
  by_cases h1 : p < 0
  · rw [if_pos h1, decide_eq_false (fun h => h.1 h1)]
  · rw [if_neg h1]
    by_cases h2 : nI n ≤ p
    · rw [if_pos h2, decide_eq_false (fun h => h.2 h2)]
    · rw [if_neg h2, decide_eq_true ⟨h1, h2⟩, if_neg]
      intro h3
      rcases pk_ix p (n := n) (by omega) with h4 | h4 | ⟨j, hj, rfl⟩
      · exact h1 h4
      · exact h2 h4
      · exact nI_ge (show j < 6 by omega) (by omega) h3
/-- LastAsked.isCity -/
theorem f115_eq {σ : xM} (hS : Sh σ) {n : Nat} (hn : n ≤ 6) (hp : mI σ 15 2 = nI n) : f115 0 σ = some (bo (decide (0 < n)), σ) := by
  unfold f115 f115_15
  simp only [acC hS, Option.bind_some, hp, rZ0, rZ1]
  by_cases h : 0 < n
  · rw [if_neg (nI_nle h (by omega)), decide_eq_true h]
  · rw [show n = 0 by omega]
    rfl
def two (n : Nat) (p q : Int32) : Bool := isP n p && isP n q && decide (¬ p = q)
/-- LastAsked.areTwo -/
theorem f117_eq {σ : xM} (hS : Sh σ) {n : Nat} (hn : n ≤ 6) (hp : mI σ 15 2 = nI n) (p q : Int32) : f117 0 p q σ = some (bo (two n p q), σ) := by
  unfold f117 f117_25 f117_26
  simp only [acC hS, Option.bind_some, f116_eq hS hn hp, bo_0, rZ0, rZ1]
  unfold two
  cases isP n p <;> cases isP n q <;> simp
  by_cases e : p = q <;> simp [e]
/-- LastAsked.refused -/
theorem f114_eq {σ : xM} (hS : Sh σ) (x : Int32) : f114 0 x σ = some (bo (decide (¬ x = 0)), wI σ 0 8 x) := by
  unfold f114 f114_14
  simp only [acC hS, Option.bind_some, rZ0, rZ1]
  by_cases h : x = 0 <;> simp [h]
section CLASS
variable {σ : xM} {n : Nat} {s : Sta}
/-- State.alive -/
theorem f48_26 (hS : Sh σ) (hc : cS σ 26 n s) (hk : Ok n s) {p : Nat} (hp : p < 6) : f48 26 (nI p) σ = some (bo (tb (lv s) p), σ) := by
  unfold f48
  simp only [acC hS, Option.bind_some, hc.2.2.1, f124N hk.lv64 hp, bo_Z]
theorem f48_29 (hS : Sh σ) (hc : cS σ 29 n s) (hk : Ok n s) {p : Nat} (hp : p < 6) : f48 29 (nI p) σ = some (bo (tb (lv s) p), σ) := by
  unfold f48
  simp only [acC hS, Option.bind_some, hc.2.2.1, f124N hk.lv64 hp, bo_Z]
def isLv (s : Sta) (p : Int32) : Bool := decide (inF (nI (lv s)) p = 1)
/-- isLivingSet -/
def lset (s : Sta) (x : Int32) : Bool := decide (x &&& (nI (lv s) ^^^ (-1)) = 0)
theorem lset_of {s : Sta} (h : lv s < 64) {x : Int32} (hx : lset s x = true) : ∃ t, t < 64 ∧ x = nI t ∧ sub t (lv s) := dif_any h (of_decide_eq_true hx)
theorem lset_nI {s : Sta} (h : lv s < 64) {t : Nat} (ht : t < 64) : lset s (nI t) = true ↔ sub t (lv s) := by
  unfold lset
  rw [decide_eq_true_eq, difN t ht _ h, nI_0' _ (Nat.lt_trans (dif_lt ht) (by decide)), dif_0 ht h]
theorem f118_eq (hS : Sh σ) (hc : cS σ 26 n s) (x : Int32) : f118 0 x σ = some (bo (lset s x), σ) := by
  unfold f118 f118_19 lset
  simp only [acC hS, Option.bind_some, hc.2.2.1, rZ0, rZ1]
  by_cases h : x &&& (nI (lv s) ^^^ (-1)) = 0
  · rw [if_pos h, decide_eq_true h]
  · rw [if_neg h, decide_eq_false h]
/-- why one who is meant to live can't be -/
def lvOr (n : Nat) (s : Sta) (p : Int32) : Int32 := if isP n p then (if inF (nI (lv s)) p = 0 then 5 else 0) else 1
theorem f119_eq (hS : Sh σ) (hp : mI σ 15 2 = nI n) (hc : cS σ 26 n s) (hk : Ok n s) (p : Int32) : f119 0 p σ = some (lvOr n s p, σ) := by
  unfold f119 f119_28 lvOr
  simp only [acC hS, Option.bind_some, f116_eq hS hk.1 hp, bo_0]
  cases h : isP n p
  · simp
  · obtain ⟨j, hj, rfl⟩ := isP_nI hk.1 h
    have hj6 : j < 6 := by have := hk.1; omega
    simp only [f48_26 hS hc hk hj6, Option.bind_some, bo_0, inN _ hk.lv64 _ hj6]
    cases tb (lv s) j <;> simp
/-- City.allows -/
def alw (C : Cty) (p q : Nat) : Bool := decide (¬ p = q) && decide (¬ kd C p = 3) && decide (¬ kd C q = 1) && (decide (¬ kd C q = 2) || tb (nr C q) p)
variable {C : Cty}
theorem f4_eq (hS : Sh σ) (hC : cC σ 15 C) (hO : OkC C) {p q : Nat} (hp : p < pe C) (hq : q < pe C) : f4 15 (nI p) (nI q) σ = some (bo (alw C p q), σ) := by
  have h6 := hO.1
  have k1 := (hC.2.1 p hp).1
  have k2 := (hC.2.1 q hq).1
  have k3 := (hC.2.2.1 q (by omega)).1
  have b1 := (hO.2.1 p hp).1
  have b2 := (hO.2.1 q hq).1
  unfold f4 f4_48 f4_52 f4_53
  simp only [acC hS, Option.bind_some, show p < 6 by omega, show q < 6 by omega, k1, k2, k3, f124N (hO.nr64 (show q < 6 by omega)) (show p < 6 by omega), bo_0, rZ0, rZ1, rZ1', nI_eq (show p < 2 ^ 31 by omega) (show q < 2 ^ 31 by omega), show (3 : Int32) = nI 3 from rfl, show (1 : Int32) = nI 1 from rfl, show (2 : Int32) = nI 2 from rfl, nI_eq (show kd C p < 2 ^ 31 by omega) (show 3 < 2 ^ 31 by omega), nI_eq (show kd C q < 2 ^ 31 by omega) (show 1 < 2 ^ 31 by omega), nI_eq (show kd C q < 2 ^ 31 by omega) (show 2 < 2 ^ 31 by omega)]
  unfold alw
  by_cases e1 : p = q
  · simp [e1]
  · by_cases e2 : kd C p = 3
    · simp [e1, e2]
    · by_cases e3 : kd C q = 1
      · simp [e1, e2, e3]
      · by_cases e4 : kd C q = 2
        · simp only [e1, e2, e3, e4]
          cases tb (nr C q) p <;> simp [rZ1']
        · simp [e1, e2, e3, e4, rZ1']
/-- whom p can ask -/
def aska (C : Cty) (s : Sta) (p : Nat) : Nat := col (fun q => tb (lv s) p && (tb (lv s) q && alw C p q)) 6
theorem f126_eq (hS : Sh σ) (hC : cC σ 15 C) (hO : OkC C) (hc : cS σ 26 (pe C) s) (hk : Ok (pe C) s) {p : Nat} (hp : p < pe C) : f126 0 (nI p) σ = some (nI (aska C s p), σ) := by
  have h6 := hO.1
  unfold f126 aska
  refine lp (fun m j => f126_4 m 0 (nI p) (nI (col (fun q => tb (lv s) p && (tb (lv s) q && alw C p q)) j)) (nI j) σ) 6 (fun j hj m r hn => ?_) (fun m => ?_) 6 1100 0 rfl (by omega)
  · simp only [col] at hn
    show f126_4 (m + 1) _ _ _ _ _ = _
    unfold f126_4 f126_50
    rw [if_neg (show ¬ (6 : Int32) ≤ nI j from nI_ge (b := 6) hj (by omega))]
    simp only [acC hS, Option.bind_some, f48_26 hS hc hk hj, f48_26 hS hc hk (show p < 6 by omega), bo_0, nI_1]
    cases e1 : tb (lv s) p
    · simpa [e1] using hn
    · cases e2 : tb (lv s) j
      · simpa [e1, e2] using hn
      · rw [f4_eq hS hC hO hp (hk.lvn e2)]
        simp only [Option.bind_some, bo_0]
        cases e3 : alw C p j
        · simpa [e1, e2, e3] using hn
        · simpa [e1, e2, e3, orN _ (col_lt _ j (show j ≤ 6 by omega)) j hj] using hn
  · show f126_4 (m + 1) _ _ _ _ _ = _
    unfold f126_4 f126_56
    rw [if_pos (show (6 : Int32) ≤ nI 6 by decide)]
end CLASS
