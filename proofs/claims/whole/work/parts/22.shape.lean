/-! THE SHAPE: which cells there are; a write; what the accessors answer; bits; loops -/
def wI (σ : xM) (a k : Nat) (x : Int32) : xM := sI σ (up2 (mI σ) a k x)
def wJ (σ : xM) (a k : Nat) (x : Int64) : xM := sJ σ (up2 (mJ σ) a k x)
def Sh (σ : xM) : Prop := 115 ≤ mN σ ∧ (∀ a, a < 115 → mK σ a = xKs.getD a 0 ∧ mL σ a = xLs.getD a 0) ∧ ∀ e, e ∈ xRf → mR σ e.1 e.2.1 = some e.2.2
theorem Sh_w (σ : xM) (a k : Nat) (x : Int32) : Sh (wI σ a k x) = Sh σ := rfl
theorem Sh_wJ (σ : xM) (a k : Nat) (x : Int64) : Sh (wJ σ a k x) = Sh σ := rfl
theorem mI_w (σ : xM) (a k b j : Nat) (x : Int32) : mI (wI σ a k x) b j = if b = a ∧ j = k then x else mI σ b j := by
  show up2 (mI σ) a k x b j = _
  unfold up2
  by_cases e : b = a
  · subst e
    rw [va_up_self]
    by_cases e2 : j = k
    · subst e2
      rw [va_up_self, if_pos ⟨rfl, rfl⟩]
    · rw [va_up_ne _ _ e2, if_neg (fun h => e2 h.2)]
  · rw [va_up_ne _ _ e, if_neg (fun h => e h.1)]
theorem mI_wJ (σ : xM) (a k : Nat) (x : Int64) : mI (wJ σ a k x) = mI σ := rfl
theorem mJ_w (σ : xM) (a k : Nat) (x : Int32) : mJ (wI σ a k x) = mJ σ := rfl
theorem mJ_wJ (σ : xM) (a k b j : Nat) (x : Int64) : mJ (wJ σ a k x) b j = if b = a ∧ j = k then x else mJ σ b j := by
  show up2 (mJ σ) a k x b j = _
  unfold up2
  by_cases e : b = a
  · subst e
    rw [va_up_self]
    by_cases e2 : j = k
    · subst e2
      rw [va_up_self, if_pos ⟨rfl, rfl⟩]
    · rw [va_up_ne _ _ e2, if_neg (fun h => e2 h.2)]
  · rw [va_up_ne _ _ e, if_neg (fun h => e h.1)]
theorem sh_n {σ : xM} {a : Nat} (h : Sh σ) (ha : a < 115) : a < mN σ := Nat.lt_of_lt_of_le ha h.1
theorem sh_k {σ : xM} {a : Nat} (h : Sh σ) (ha : a < 115) : mK σ a = xKs.getD a 0 := (h.2.1 a ha).1
theorem sh_a {σ : xM} {a n : Nat} (h : Sh σ) (ha : a < 115) (h1 : xKs.getD a 0 = 11) (h2 : xLs.getD a 0 = n) : isI σ a n := ⟨sh_n h ha, (sh_k h ha).trans h1, (h.2.1 a ha).2.trans h2⟩
def isB (σ : xM) (a n : Nat) : Prop := a < mN σ ∧ mK σ a = 10 ∧ mL σ a = n
def isJ (σ : xM) (a n : Nat) : Prop := a < mN σ ∧ mK σ a = 12 ∧ mL σ a = n
theorem sh_b {σ : xM} {a n : Nat} (h : Sh σ) (ha : a < 115) (h1 : xKs.getD a 0 = 10) (h2 : xLs.getD a 0 = n) : isB σ a n := ⟨sh_n h ha, (sh_k h ha).trans h1, (h.2.1 a ha).2.trans h2⟩
theorem sh_j {σ : xM} {a n : Nat} (h : Sh σ) (ha : a < 115) (h1 : xKs.getD a 0 = 12) (h2 : xLs.getD a 0 = n) : isJ σ a n := ⟨sh_n h ha, (sh_k h ha).trans h1, (h.2.1 a ha).2.trans h2⟩
theorem okO {σ : xM} {a c : Nat} (h1 : a < mN σ) (h2 : mK σ a = c) : (Nat.blt a (mN σ) && Nat.beq (mK σ a) c) = true := by
  simp only [Bool.and_eq_true, Nat.blt_eq, Nat.beq_eq]
  exact ⟨h1, h2⟩
theorem gJ_ok {σ : xM} {a c k : Nat} (h1 : a < mN σ) (h2 : mK σ a = c) : gJ σ a c k = some (mJ σ a k) := by
  unfold gJ
  rw [okO h1 h2]
  rfl
theorem gQ_ok {σ : xM} {a c k : Nat} (h1 : a < mN σ) (h2 : mK σ a = c) : gQ σ a c k = some (mR σ a k) := by
  unfold gQ
  rw [okO h1 h2]
  rfl
theorem pI_ok {σ : xM} {a c k : Nat} {x : Int32} (h1 : a < mN σ) (h2 : mK σ a = c) : pI σ a c k x = some (wI σ a k x) := by
  unfold pI
  rw [okO h1 h2]
  rfl
theorem pJ_ok {σ : xM} {a c k : Nat} {x : Int64} (h1 : a < mN σ) (h2 : mK σ a = c) : pJ σ a c k x = some (wJ σ a k x) := by
  unfold pJ
  rw [okO h1 h2]
  rfl
theorem pZ_ok {σ : xM} {a c k : Nat} {x : Int32} (h1 : a < mN σ) (h2 : mK σ a = c) (hx : x = 0 ∨ x = 1) : pZ σ a c k x = some (wI σ a k x) := by
  unfold pZ
  rw [okO h1 h2, decide_eq_true hx]
  rfl
theorem okA {σ : xM} {a n j c : Nat} (h : a < mN σ ∧ mK σ a = c ∧ mL σ a = n) (hj : j < n) (hn : n < 2 ^ 31) : (Nat.blt a (mN σ) && Nat.beq (mK σ a) c && xinB (nI j) (mL σ a)) = true := by
  obtain ⟨h1, h2, h3⟩ := h
  simp only [Bool.and_eq_true, Nat.blt_eq, Nat.beq_eq]
  exact ⟨⟨h1, h2⟩, by rw [h3]; exact xinB_nI hj hn⟩
theorem aB_nI {σ : xM} {a n j : Nat} (h : isB σ a n) (hj : j < n) (hn : n < 2 ^ 31) : aB σ a (nI j) = some (mI σ a j) := by
  unfold aB
  rw [okA h hj hn]
  simp only [cond_true, nI_clamp (show j < 2 ^ 31 by omega)]
theorem tB_nI {σ : xM} {a n j : Nat} {v : Int32} (h : isB σ a n) (hj : j < n) (hn : n < 2 ^ 31) : tB σ a (nI j) v = some (wI σ a j (v.toInt8.toInt32)) := by
  unfold tB
  rw [okA h hj hn]
  simp only [cond_true, nI_clamp (show j < 2 ^ 31 by omega)]
  rfl
theorem aJ_nI {σ : xM} {a n j : Nat} (h : isJ σ a n) (hj : j < n) (hn : n < 2 ^ 31) : aJ σ a (nI j) = some (mJ σ a j) := by
  unfold aJ
  rw [okA h hj hn]
  simp only [cond_true, nI_clamp (show j < 2 ^ 31 by omega)]
theorem tJ_nI {σ : xM} {a n j : Nat} {v : Int64} (h : isJ σ a n) (hj : j < n) (hn : n < 2 ^ 31) : tJ σ a (nI j) v = some (wJ σ a j v) := by
  unfold tJ
  rw [okA h hj hn]
  simp only [cond_true, nI_clamp (show j < 2 ^ 31 by omega)]
  rfl
/-- a loop: so many rounds -/
theorem lp {γ : Type} (G : Nat → Nat → Option γ) (N : Nat) {r : Option γ} (hs : ∀ j, j < N → ∀ n, G (n + 1) j = G n (j + 1)) (he : ∀ n, G (n + 1) N = r) : ∀ (m n j : Nat), j + m = N → m + 1 ≤ n → G n j = r := by
  intro m
  induction m with
  | zero =>
    intro n j hj hn
    obtain ⟨n, rfl⟩ : ∃ k, n = k + 1 := ⟨n - 1, by omega⟩
    rw [show j = N by omega]
    exact he n
  | succ m ih =>
    intro n j hj hn
    obtain ⟨n, rfl⟩ : ∃ k, n = k + 1 := ⟨n - 1, by omega⟩
    rw [hs j (by omega) n]
    exact ih n (j + 1) (by omega) (by omega)
/-- ints and longs are written at some places alone -/
def Upd (P : Nat → Nat → Bool) (σ τ : xM) : Prop := (mK τ = mK σ ∧ mL τ = mL σ ∧ mR τ = mR σ ∧ mN τ = mN σ ∧ mU τ = mU σ) ∧ (∀ a k, P a k = false → mI τ a k = mI σ a k) ∧ (∀ a k, P a k = false → mJ τ a k = mJ σ a k)
theorem Upd.refl {P : Nat → Nat → Bool} {σ : xM} : Upd P σ σ := ⟨⟨rfl, rfl, rfl, rfl, rfl⟩, fun _ _ _ => rfl, fun _ _ _ => rfl⟩
theorem Upd.trans {P : Nat → Nat → Bool} {σ τ υ : xM} (h : Upd P σ τ) (g : Upd P τ υ) : Upd P σ υ := by
  obtain ⟨⟨a1, a2, a3, a4, a5⟩, a6, a7⟩ := h
  obtain ⟨⟨b1, b2, b3, b4, b5⟩, b6, b7⟩ := g
  exact ⟨⟨b1.trans a1, b2.trans a2, b3.trans a3, b4.trans a4, b5.trans a5⟩, fun a k hp => (b6 a k hp).trans (a6 a k hp), fun a k hp => (b7 a k hp).trans (a7 a k hp)⟩
theorem Upd.mono {P Q : Nat → Nat → Bool} {σ τ : xM} (h : Upd P σ τ) (hq : ∀ a k, Q a k = false → P a k = false) : Upd Q σ τ :=
  ⟨h.1, fun a k hp => h.2.1 a k (hq a k hp), fun a k hp => h.2.2 a k (hq a k hp)⟩
theorem Upd.wI {P : Nat → Nat → Bool} {σ τ : xM} (h : Upd P σ τ) {a k : Nat} {x : Int32} (hp : P a k = true) : Upd P σ (wI τ a k x) := by
  obtain ⟨a1, a6, a7⟩ := h
  refine ⟨a1, fun b j hb => ?_, a7⟩
  rw [mI_w, if_neg (fun e => by rw [e.1, e.2, hp] at hb; cases hb)]
  exact a6 b j hb
theorem Upd.wJ {P : Nat → Nat → Bool} {σ τ : xM} (h : Upd P σ τ) {a k : Nat} {x : Int64} (hp : P a k = true) : Upd P σ (wJ τ a k x) := by
  obtain ⟨a1, a6, a7⟩ := h
  refine ⟨a1, a6, fun b j hb => ?_⟩
  rw [mJ_wJ, if_neg (fun e => by rw [e.1, e.2, hp] at hb; cases hb)]
  exact a7 b j hb
theorem Upd.sh {P : Nat → Nat → Bool} {σ τ : xM} (h : Upd P σ τ) (hS : Sh σ) : Sh τ := by
  obtain ⟨⟨a1, a2, a3, a4, -⟩, -⟩ := h
  unfold Sh
  rw [a1, a2, a3, a4]
  exact hS
-- bits
theorem inN : ∀ s, s < 64 → ∀ p, p < 6 → inF (nI s) (nI p) = if tb s p then 1 else 0 := by decide +kernel
theorem bitN : ∀ s, s < 64 → ∀ p, p < 6 → bitF (nI s) (nI p) = if tb s p then 1 else 0 := by decide +kernel
theorem orN : ∀ s, s < 64 → ∀ p, p < 6 → nI s ||| (1 <<< (nI p &&& 31)) = nI (s ||| 2 ^ p) := by decide +kernel
theorem shlN : ∀ p, p < 6 → (1 : Int32) <<< (nI p &&& 31) = nI (2 ^ p) := by decide +kernel
def dif (s t : Nat) : Nat := s &&& (63 ^^^ t)
theorem tb_dif {s t i : Nat} (ht : t < 64) (hi : i < 6) : tb (dif s t) i = (tb s i && !tb t i) := by
  unfold tb dif
  rw [Nat.testBit_and, Nat.testBit_xor]
  have : Nat.testBit 63 i = true := by
    revert i
    decide
  rw [this]
  simp
theorem dif_lt {s t : Nat} (hs : s < 64) : dif s t < 64 := Nat.lt_of_le_of_lt Nat.and_le_left hs
theorem difN : ∀ s, s < 64 → ∀ t, t < 64 → nI s &&& (nI t ^^^ (-1)) = nI (dif s t) := by decide +kernel
theorem nI_0' (n : Nat) (h : n < 2 ^ 31) : (nI n = 0) = (n = 0) := by
  rw [← nI_0]
  exact propext (nI_eq h (by omega))
theorem dif_0 {s t : Nat} (hs : s < 64) (ht : t < 64) : dif s t = 0 ↔ sub s t := by
  constructor
  · intro e i hi
    by_cases h6 : i < 6
    · have := tb_dif (s := s) ht h6
      rw [e, tb_0, hi] at this
      simpa using this.symm
    · rw [tb_lt (k := 6) hs (by omega)] at hi
      cases hi
  · intro h
    refine tb_ext6 (dif_lt hs) (by omega) (fun i hi => ?_)
    rw [tb_dif ht hi, tb_0]
    cases e : tb s i
    · rfl
    · rw [h i e]
      rfl
/-- a number that has no bit but those of a set of six -/
theorem dif_any {x : Int32} {t : Nat} (ht : t < 64) (h : x &&& (nI t ^^^ (-1)) = 0) : ∃ s, s < 64 ∧ x = nI s ∧ sub s t := by
  have h1 : x.toBitVec &&& ~~~(nI t).toBitVec = 0#32 := by
    have := congrArg Int32.toBitVec h
    simpa using this
  have h2 : x.toBitVec = x.toBitVec &&& (nI t).toBitVec := by
    ext i hi
    have := congrArg (fun b => b.getLsbD i) h1
    simp [hi] at this ⊢
    exact this
  have h3 : x.toBitVec.toNat < 64 := by
    rw [h2, BitVec.toNat_and, pk_tn (by omega)]
    exact Nat.lt_of_le_of_lt Nat.and_le_right ht
  have h4 : x = nI x.toBitVec.toNat := by
    apply Int32.toBitVec_inj.mp
    apply BitVec.eq_of_toNat_eq
    rw [pk_tn (by omega)]
  refine ⟨x.toBitVec.toNat, h3, h4, ?_⟩
  rw [h4, difN _ h3 _ ht, nI_0' _ (Nat.lt_trans (dif_lt h3) (by decide))] at h
  exact (dif_0 h3 ht).mp h
theorem acC {σ : xM} (h : Sh σ) : gR σ 0 7 0 = some 1 ∧ gR σ 0 7 1 = some 15 ∧ gR σ 0 7 2 = some 26 ∧ gR σ 0 7 3 = some 29 ∧ gR σ 0 7 4 = some 32 ∧ gR σ 0 7 5 = some 92 ∧ gR σ 0 7 6 = some 94 ∧ gR σ 0 7 7 = some 96 ∧ cO σ 0 7 = some () ∧ (∀ j, gI σ 0 7 j = some (mI σ 0 j)) ∧ (∀ j, gJ σ 0 7 j = some (mJ σ 0 j)) ∧ (∀ j x, pI σ 0 7 j x = some (wI σ 0 j x)) ∧ (∀ j x, pJ σ 0 7 j x = some (wJ σ 0 j x)) ∧ (∀ j x, (x = 0 ∨ x = 1) → pZ σ 0 7 j x = some (wI σ 0 j x)) ∧ gR σ 26 4 5 = some 27 ∧ gR σ 26 4 6 = some 28 ∧ cO σ 26 4 = some () ∧ (∀ j, gI σ 26 4 j = some (mI σ 26 j)) ∧ (∀ j, gJ σ 26 4 j = some (mJ σ 26 j)) ∧ (∀ j x, pI σ 26 4 j x = some (wI σ 26 j x)) ∧ (∀ j x, pJ σ 26 4 j x = some (wJ σ 26 j x)) ∧ (∀ j x, (x = 0 ∨ x = 1) → pZ σ 26 4 j x = some (wI σ 26 j x)) ∧ gR σ 29 4 5 = some 30 ∧ gR σ 29 4 6 = some 31 ∧ cO σ 29 4 = some () ∧ (∀ j, gI σ 29 4 j = some (mI σ 29 j)) ∧ (∀ j, gJ σ 29 4 j = some (mJ σ 29 j)) ∧ (∀ j x, pI σ 29 4 j x = some (wI σ 29 j x)) ∧ (∀ j x, pJ σ 29 4 j x = some (wJ σ 29 j x)) ∧ (∀ j x, (x = 0 ∨ x = 1) → pZ σ 29 4 j x = some (wI σ 29 j x)) ∧ gR σ 92 6 0 = some 93 ∧ cO σ 92 6 = some () ∧ (∀ j, gI σ 92 6 j = some (mI σ 92 j)) ∧ (∀ j, gJ σ 92 6 j = some (mJ σ 92 j)) ∧ (∀ j x, pI σ 92 6 j x = some (wI σ 92 j x)) ∧ (∀ j x, pJ σ 92 6 j x = some (wJ σ 92 j x)) ∧ (∀ j x, (x = 0 ∨ x = 1) → pZ σ 92 6 j x = some (wI σ 92 j x)) ∧ gR σ 15 0 7 = some 16 ∧ gR σ 15 0 8 = some 17 ∧ gR σ 15 0 9 = some 18 ∧ gR σ 15 0 10 = some 19 ∧ gR σ 15 0 11 = some 20 ∧ gR σ 15 0 12 = some 21 ∧ gR σ 15 0 13 = some 22 ∧ gR σ 15 0 14 = some 23 ∧ gR σ 15 0 15 = some 24 ∧ gR σ 15 0 16 = some 25 ∧ cO σ 15 0 = some () ∧ (∀ j, gI σ 15 0 j = some (mI σ 15 j)) ∧ (∀ j, gJ σ 15 0 j = some (mJ σ 15 j)) ∧ (∀ j x, pI σ 15 0 j x = some (wI σ 15 j x)) ∧ (∀ j x, pJ σ 15 0 j x = some (wJ σ 15 j x)) ∧ (∀ j x, (x = 0 ∨ x = 1) → pZ σ 15 0 j x = some (wI σ 15 j x)) ∧ (∀ j, j < 6 → aI σ 27 (nI j) = some (mI σ 27 j)) ∧ (∀ j x, j < 6 → tI σ 27 (nI j) x = some (wI σ 27 j x)) ∧ (∀ j, j < 36 → aI σ 28 (nI j) = some (mI σ 28 j)) ∧ (∀ j x, j < 36 → tI σ 28 (nI j) x = some (wI σ 28 j x)) ∧ (∀ j, j < 6 → aI σ 30 (nI j) = some (mI σ 30 j)) ∧ (∀ j x, j < 6 → tI σ 30 (nI j) x = some (wI σ 30 j x)) ∧ (∀ j, j < 36 → aI σ 31 (nI j) = some (mI σ 31 j)) ∧ (∀ j x, j < 36 → tI σ 31 (nI j) x = some (wI σ 31 j x)) ∧ (∀ j, j < 6 → aI σ 93 (nI j) = some (mI σ 93 j)) ∧ (∀ j x, j < 6 → tI σ 93 (nI j) x = some (wI σ 93 j x)) ∧ (∀ j, j < 6 → aI σ 16 (nI j) = some (mI σ 16 j)) ∧ (∀ j x, j < 6 → tI σ 16 (nI j) x = some (wI σ 16 j x)) ∧ (∀ j, j < 6 → aI σ 17 (nI j) = some (mI σ 17 j)) ∧ (∀ j x, j < 6 → tI σ 17 (nI j) x = some (wI σ 17 j x)) ∧ (∀ j, j < 6 → aI σ 18 (nI j) = some (mI σ 18 j)) ∧ (∀ j x, j < 6 → tI σ 18 (nI j) x = some (wI σ 18 j x)) ∧ (∀ j, j < 6 → aI σ 19 (nI j) = some (mI σ 19 j)) ∧ (∀ j x, j < 6 → tI σ 19 (nI j) x = some (wI σ 19 j x)) ∧ (∀ j, j < 6 → aI σ 20 (nI j) = some (mI σ 20 j)) ∧ (∀ j x, j < 6 → tI σ 20 (nI j) x = some (wI σ 20 j x)) ∧ (∀ j, j < 36 → aI σ 21 (nI j) = some (mI σ 21 j)) ∧ (∀ j x, j < 36 → tI σ 21 (nI j) x = some (wI σ 21 j x)) ∧ (∀ j, j < 36 → aI σ 22 (nI j) = some (mI σ 22 j)) ∧ (∀ j x, j < 36 → tI σ 22 (nI j) x = some (wI σ 22 j x)) ∧ (∀ j, j < 3 → aI σ 23 (nI j) = some (mI σ 23 j)) ∧ (∀ j x, j < 3 → tI σ 23 (nI j) x = some (wI σ 23 j x)) ∧ (∀ j, j < 3 → aI σ 24 (nI j) = some (mI σ 24 j)) ∧ (∀ j x, j < 3 → tI σ 24 (nI j) x = some (wI σ 24 j x)) ∧ (∀ j, j < 3 → aI σ 25 (nI j) = some (mI σ 25 j)) ∧ (∀ j x, j < 3 → tI σ 25 (nI j) x = some (wI σ 25 j x)) :=
  ⟨gR_ok (sh_n h (by decide : 0 < 115)) (sh_k h (by decide : 0 < 115)) (h.2.2 (0, 0, 1) (by decide)), gR_ok (sh_n h (by decide : 0 < 115)) (sh_k h (by decide : 0 < 115)) (h.2.2 (0, 1, 15) (by decide)), gR_ok (sh_n h (by decide : 0 < 115)) (sh_k h (by decide : 0 < 115)) (h.2.2 (0, 2, 26) (by decide)), gR_ok (sh_n h (by decide : 0 < 115)) (sh_k h (by decide : 0 < 115)) (h.2.2 (0, 3, 29) (by decide)), gR_ok (sh_n h (by decide : 0 < 115)) (sh_k h (by decide : 0 < 115)) (h.2.2 (0, 4, 32) (by decide)), gR_ok (sh_n h (by decide : 0 < 115)) (sh_k h (by decide : 0 < 115)) (h.2.2 (0, 5, 92) (by decide)), gR_ok (sh_n h (by decide : 0 < 115)) (sh_k h (by decide : 0 < 115)) (h.2.2 (0, 6, 94) (by decide)), gR_ok (sh_n h (by decide : 0 < 115)) (sh_k h (by decide : 0 < 115)) (h.2.2 (0, 7, 96) (by decide)), cO_yes (sh_n h (by decide : 0 < 115)) (sh_k h (by decide : 0 < 115)), fun j => gI_ok (sh_n h (by decide : 0 < 115)) (sh_k h (by decide : 0 < 115)), fun j => gJ_ok (sh_n h (by decide : 0 < 115)) (sh_k h (by decide : 0 < 115)), fun j x => pI_ok (sh_n h (by decide : 0 < 115)) (sh_k h (by decide : 0 < 115)), fun j x => pJ_ok (sh_n h (by decide : 0 < 115)) (sh_k h (by decide : 0 < 115)), fun j x hx => pZ_ok (sh_n h (by decide : 0 < 115)) (sh_k h (by decide : 0 < 115)) hx, gR_ok (sh_n h (by decide : 26 < 115)) (sh_k h (by decide : 26 < 115)) (h.2.2 (26, 5, 27) (by decide)), gR_ok (sh_n h (by decide : 26 < 115)) (sh_k h (by decide : 26 < 115)) (h.2.2 (26, 6, 28) (by decide)), cO_yes (sh_n h (by decide : 26 < 115)) (sh_k h (by decide : 26 < 115)), fun j => gI_ok (sh_n h (by decide : 26 < 115)) (sh_k h (by decide : 26 < 115)), fun j => gJ_ok (sh_n h (by decide : 26 < 115)) (sh_k h (by decide : 26 < 115)), fun j x => pI_ok (sh_n h (by decide : 26 < 115)) (sh_k h (by decide : 26 < 115)), fun j x => pJ_ok (sh_n h (by decide : 26 < 115)) (sh_k h (by decide : 26 < 115)), fun j x hx => pZ_ok (sh_n h (by decide : 26 < 115)) (sh_k h (by decide : 26 < 115)) hx, gR_ok (sh_n h (by decide : 29 < 115)) (sh_k h (by decide : 29 < 115)) (h.2.2 (29, 5, 30) (by decide)), gR_ok (sh_n h (by decide : 29 < 115)) (sh_k h (by decide : 29 < 115)) (h.2.2 (29, 6, 31) (by decide)), cO_yes (sh_n h (by decide : 29 < 115)) (sh_k h (by decide : 29 < 115)), fun j => gI_ok (sh_n h (by decide : 29 < 115)) (sh_k h (by decide : 29 < 115)), fun j => gJ_ok (sh_n h (by decide : 29 < 115)) (sh_k h (by decide : 29 < 115)), fun j x => pI_ok (sh_n h (by decide : 29 < 115)) (sh_k h (by decide : 29 < 115)), fun j x => pJ_ok (sh_n h (by decide : 29 < 115)) (sh_k h (by decide : 29 < 115)), fun j x hx => pZ_ok (sh_n h (by decide : 29 < 115)) (sh_k h (by decide : 29 < 115)) hx, gR_ok (sh_n h (by decide : 92 < 115)) (sh_k h (by decide : 92 < 115)) (h.2.2 (92, 0, 93) (by decide)), cO_yes (sh_n h (by decide : 92 < 115)) (sh_k h (by decide : 92 < 115)), fun j => gI_ok (sh_n h (by decide : 92 < 115)) (sh_k h (by decide : 92 < 115)), fun j => gJ_ok (sh_n h (by decide : 92 < 115)) (sh_k h (by decide : 92 < 115)), fun j x => pI_ok (sh_n h (by decide : 92 < 115)) (sh_k h (by decide : 92 < 115)), fun j x => pJ_ok (sh_n h (by decide : 92 < 115)) (sh_k h (by decide : 92 < 115)), fun j x hx => pZ_ok (sh_n h (by decide : 92 < 115)) (sh_k h (by decide : 92 < 115)) hx, gR_ok (sh_n h (by decide : 15 < 115)) (sh_k h (by decide : 15 < 115)) (h.2.2 (15, 7, 16) (by decide)), gR_ok (sh_n h (by decide : 15 < 115)) (sh_k h (by decide : 15 < 115)) (h.2.2 (15, 8, 17) (by decide)), gR_ok (sh_n h (by decide : 15 < 115)) (sh_k h (by decide : 15 < 115)) (h.2.2 (15, 9, 18) (by decide)), gR_ok (sh_n h (by decide : 15 < 115)) (sh_k h (by decide : 15 < 115)) (h.2.2 (15, 10, 19) (by decide)), gR_ok (sh_n h (by decide : 15 < 115)) (sh_k h (by decide : 15 < 115)) (h.2.2 (15, 11, 20) (by decide)), gR_ok (sh_n h (by decide : 15 < 115)) (sh_k h (by decide : 15 < 115)) (h.2.2 (15, 12, 21) (by decide)), gR_ok (sh_n h (by decide : 15 < 115)) (sh_k h (by decide : 15 < 115)) (h.2.2 (15, 13, 22) (by decide)), gR_ok (sh_n h (by decide : 15 < 115)) (sh_k h (by decide : 15 < 115)) (h.2.2 (15, 14, 23) (by decide)), gR_ok (sh_n h (by decide : 15 < 115)) (sh_k h (by decide : 15 < 115)) (h.2.2 (15, 15, 24) (by decide)), gR_ok (sh_n h (by decide : 15 < 115)) (sh_k h (by decide : 15 < 115)) (h.2.2 (15, 16, 25) (by decide)), cO_yes (sh_n h (by decide : 15 < 115)) (sh_k h (by decide : 15 < 115)), fun j => gI_ok (sh_n h (by decide : 15 < 115)) (sh_k h (by decide : 15 < 115)), fun j => gJ_ok (sh_n h (by decide : 15 < 115)) (sh_k h (by decide : 15 < 115)), fun j x => pI_ok (sh_n h (by decide : 15 < 115)) (sh_k h (by decide : 15 < 115)), fun j x => pJ_ok (sh_n h (by decide : 15 < 115)) (sh_k h (by decide : 15 < 115)), fun j x hx => pZ_ok (sh_n h (by decide : 15 < 115)) (sh_k h (by decide : 15 < 115)) hx, fun j hj => aI_nI (sh_a h (by decide : 27 < 115) rfl rfl) hj (by decide), fun j x hj => tI_nI (sh_a h (by decide : 27 < 115) rfl rfl) hj (by decide), fun j hj => aI_nI (sh_a h (by decide : 28 < 115) rfl rfl) hj (by decide), fun j x hj => tI_nI (sh_a h (by decide : 28 < 115) rfl rfl) hj (by decide), fun j hj => aI_nI (sh_a h (by decide : 30 < 115) rfl rfl) hj (by decide), fun j x hj => tI_nI (sh_a h (by decide : 30 < 115) rfl rfl) hj (by decide), fun j hj => aI_nI (sh_a h (by decide : 31 < 115) rfl rfl) hj (by decide), fun j x hj => tI_nI (sh_a h (by decide : 31 < 115) rfl rfl) hj (by decide), fun j hj => aI_nI (sh_a h (by decide : 93 < 115) rfl rfl) hj (by decide), fun j x hj => tI_nI (sh_a h (by decide : 93 < 115) rfl rfl) hj (by decide), fun j hj => aI_nI (sh_a h (by decide : 16 < 115) rfl rfl) hj (by decide), fun j x hj => tI_nI (sh_a h (by decide : 16 < 115) rfl rfl) hj (by decide), fun j hj => aI_nI (sh_a h (by decide : 17 < 115) rfl rfl) hj (by decide), fun j x hj => tI_nI (sh_a h (by decide : 17 < 115) rfl rfl) hj (by decide), fun j hj => aI_nI (sh_a h (by decide : 18 < 115) rfl rfl) hj (by decide), fun j x hj => tI_nI (sh_a h (by decide : 18 < 115) rfl rfl) hj (by decide), fun j hj => aI_nI (sh_a h (by decide : 19 < 115) rfl rfl) hj (by decide), fun j x hj => tI_nI (sh_a h (by decide : 19 < 115) rfl rfl) hj (by decide), fun j hj => aI_nI (sh_a h (by decide : 20 < 115) rfl rfl) hj (by decide), fun j x hj => tI_nI (sh_a h (by decide : 20 < 115) rfl rfl) hj (by decide), fun j hj => aI_nI (sh_a h (by decide : 21 < 115) rfl rfl) hj (by decide), fun j x hj => tI_nI (sh_a h (by decide : 21 < 115) rfl rfl) hj (by decide), fun j hj => aI_nI (sh_a h (by decide : 22 < 115) rfl rfl) hj (by decide), fun j x hj => tI_nI (sh_a h (by decide : 22 < 115) rfl rfl) hj (by decide), fun j hj => aI_nI (sh_a h (by decide : 23 < 115) rfl rfl) hj (by decide), fun j x hj => tI_nI (sh_a h (by decide : 23 < 115) rfl rfl) hj (by decide), fun j hj => aI_nI (sh_a h (by decide : 24 < 115) rfl rfl) hj (by decide), fun j x hj => tI_nI (sh_a h (by decide : 24 < 115) rfl rfl) hj (by decide), fun j hj => aI_nI (sh_a h (by decide : 25 < 115) rfl rfl) hj (by decide), fun j x hj => tI_nI (sh_a h (by decide : 25 < 115) rfl rfl) hj (by decide)⟩
theorem acW {σ : xM} (h : Sh σ) : gR σ 94 5 0 = some 95 ∧ cO σ 94 5 = some () ∧ (∀ j, gI σ 94 5 j = some (mI σ 94 j)) ∧ (∀ j, gJ σ 94 5 j = some (mJ σ 94 j)) ∧ (∀ j x, pI σ 94 5 j x = some (wI σ 94 j x)) ∧ (∀ j x, pJ σ 94 5 j x = some (wJ σ 94 j x)) ∧ (∀ j x, (x = 0 ∨ x = 1) → pZ σ 94 5 j x = some (wI σ 94 j x)) ∧ gR σ 96 1 1 = some 97 ∧ gR σ 96 1 2 = some 98 ∧ gR σ 96 1 3 = some 99 ∧ gR σ 96 1 4 = some 100 ∧ gR σ 96 1 5 = some 101 ∧ cO σ 96 1 = some () ∧ (∀ j, gI σ 96 1 j = some (mI σ 96 j)) ∧ (∀ j, gJ σ 96 1 j = some (mJ σ 96 j)) ∧ (∀ j x, pI σ 96 1 j x = some (wI σ 96 j x)) ∧ (∀ j x, pJ σ 96 1 j x = some (wJ σ 96 j x)) ∧ (∀ j x, (x = 0 ∨ x = 1) → pZ σ 96 1 j x = some (wI σ 96 j x)) ∧ gR σ 32 2 3 = some 33 ∧ gR σ 32 2 4 = some 34 ∧ cO σ 32 2 = some () ∧ (∀ j, gI σ 32 2 j = some (mI σ 32 j)) ∧ (∀ j, gJ σ 32 2 j = some (mJ σ 32 j)) ∧ (∀ j x, pI σ 32 2 j x = some (wI σ 32 j x)) ∧ (∀ j x, pJ σ 32 2 j x = some (wJ σ 32 j x)) ∧ (∀ j x, (x = 0 ∨ x = 1) → pZ σ 32 2 j x = some (wI σ 32 j x)) ∧ (∀ j, j < 384 → aI σ 95 (nI j) = some (mI σ 95 j)) ∧ (∀ j x, j < 384 → tI σ 95 (nI j) x = some (wI σ 95 j x)) ∧ (∀ j, j < 3 → aI σ 97 (nI j) = some (mI σ 97 j)) ∧ (∀ j x, j < 3 → tI σ 97 (nI j) x = some (wI σ 97 j x)) ∧ (∀ j, j < 3 → aI σ 98 (nI j) = some (mI σ 98 j)) ∧ (∀ j x, j < 3 → tI σ 98 (nI j) x = some (wI σ 98 j x)) ∧ (∀ j, j < 3 → aI σ 99 (nI j) = some (mI σ 99 j)) ∧ (∀ j x, j < 3 → tI σ 99 (nI j) x = some (wI σ 99 j x)) ∧ (∀ j, j < 36 → aI σ 100 (nI j) = some (mI σ 100 j)) ∧ (∀ j x, j < 36 → tI σ 100 (nI j) x = some (wI σ 100 j x)) ∧ (∀ j, j < 21 → aI σ 101 (nI j) = some (mI σ 101 j)) ∧ (∀ j x, j < 21 → tI σ 101 (nI j) x = some (wI σ 101 j x)) :=
  ⟨gR_ok (sh_n h (by decide : 94 < 115)) (sh_k h (by decide : 94 < 115)) (h.2.2 (94, 0, 95) (by decide)), cO_yes (sh_n h (by decide : 94 < 115)) (sh_k h (by decide : 94 < 115)), fun j => gI_ok (sh_n h (by decide : 94 < 115)) (sh_k h (by decide : 94 < 115)), fun j => gJ_ok (sh_n h (by decide : 94 < 115)) (sh_k h (by decide : 94 < 115)), fun j x => pI_ok (sh_n h (by decide : 94 < 115)) (sh_k h (by decide : 94 < 115)), fun j x => pJ_ok (sh_n h (by decide : 94 < 115)) (sh_k h (by decide : 94 < 115)), fun j x hx => pZ_ok (sh_n h (by decide : 94 < 115)) (sh_k h (by decide : 94 < 115)) hx, gR_ok (sh_n h (by decide : 96 < 115)) (sh_k h (by decide : 96 < 115)) (h.2.2 (96, 1, 97) (by decide)), gR_ok (sh_n h (by decide : 96 < 115)) (sh_k h (by decide : 96 < 115)) (h.2.2 (96, 2, 98) (by decide)), gR_ok (sh_n h (by decide : 96 < 115)) (sh_k h (by decide : 96 < 115)) (h.2.2 (96, 3, 99) (by decide)), gR_ok (sh_n h (by decide : 96 < 115)) (sh_k h (by decide : 96 < 115)) (h.2.2 (96, 4, 100) (by decide)), gR_ok (sh_n h (by decide : 96 < 115)) (sh_k h (by decide : 96 < 115)) (h.2.2 (96, 5, 101) (by decide)), cO_yes (sh_n h (by decide : 96 < 115)) (sh_k h (by decide : 96 < 115)), fun j => gI_ok (sh_n h (by decide : 96 < 115)) (sh_k h (by decide : 96 < 115)), fun j => gJ_ok (sh_n h (by decide : 96 < 115)) (sh_k h (by decide : 96 < 115)), fun j x => pI_ok (sh_n h (by decide : 96 < 115)) (sh_k h (by decide : 96 < 115)), fun j x => pJ_ok (sh_n h (by decide : 96 < 115)) (sh_k h (by decide : 96 < 115)), fun j x hx => pZ_ok (sh_n h (by decide : 96 < 115)) (sh_k h (by decide : 96 < 115)) hx, gR_ok (sh_n h (by decide : 32 < 115)) (sh_k h (by decide : 32 < 115)) (h.2.2 (32, 3, 33) (by decide)), gR_ok (sh_n h (by decide : 32 < 115)) (sh_k h (by decide : 32 < 115)) (h.2.2 (32, 4, 34) (by decide)), cO_yes (sh_n h (by decide : 32 < 115)) (sh_k h (by decide : 32 < 115)), fun j => gI_ok (sh_n h (by decide : 32 < 115)) (sh_k h (by decide : 32 < 115)), fun j => gJ_ok (sh_n h (by decide : 32 < 115)) (sh_k h (by decide : 32 < 115)), fun j x => pI_ok (sh_n h (by decide : 32 < 115)) (sh_k h (by decide : 32 < 115)), fun j x => pJ_ok (sh_n h (by decide : 32 < 115)) (sh_k h (by decide : 32 < 115)), fun j x hx => pZ_ok (sh_n h (by decide : 32 < 115)) (sh_k h (by decide : 32 < 115)) hx, fun j hj => aI_nI (sh_a h (by decide : 95 < 115) rfl rfl) hj (by decide), fun j x hj => tI_nI (sh_a h (by decide : 95 < 115) rfl rfl) hj (by decide), fun j hj => aI_nI (sh_a h (by decide : 97 < 115) rfl rfl) hj (by decide), fun j x hj => tI_nI (sh_a h (by decide : 97 < 115) rfl rfl) hj (by decide), fun j hj => aI_nI (sh_a h (by decide : 98 < 115) rfl rfl) hj (by decide), fun j x hj => tI_nI (sh_a h (by decide : 98 < 115) rfl rfl) hj (by decide), fun j hj => aI_nI (sh_a h (by decide : 99 < 115) rfl rfl) hj (by decide), fun j x hj => tI_nI (sh_a h (by decide : 99 < 115) rfl rfl) hj (by decide), fun j hj => aI_nI (sh_a h (by decide : 100 < 115) rfl rfl) hj (by decide), fun j x hj => tI_nI (sh_a h (by decide : 100 < 115) rfl rfl) hj (by decide), fun j hj => aI_nI (sh_a h (by decide : 101 < 115) rfl rfl) hj (by decide), fun j x hj => tI_nI (sh_a h (by decide : 101 < 115) rfl rfl) hj (by decide)⟩
theorem acR {σ : xM} (h : Sh σ) : gR σ 1 3 2 = some 2 ∧ gR σ 1 3 4 = some 13 ∧ gR σ 1 3 12 = some 14 ∧ cO σ 1 3 = some () ∧ (∀ j, gI σ 1 3 j = some (mI σ 1 j)) ∧ (∀ j, gJ σ 1 3 j = some (mJ σ 1 j)) ∧ (∀ j x, pI σ 1 3 j x = some (wI σ 1 j x)) ∧ (∀ j x, pJ σ 1 3 j x = some (wJ σ 1 j x)) ∧ (∀ j x, (x = 0 ∨ x = 1) → pZ σ 1 3 j x = some (wI σ 1 j x)) ∧ gR σ 2 0 7 = some 3 ∧ gR σ 2 0 8 = some 4 ∧ gR σ 2 0 9 = some 5 ∧ gR σ 2 0 10 = some 6 ∧ gR σ 2 0 11 = some 7 ∧ gR σ 2 0 12 = some 8 ∧ gR σ 2 0 13 = some 9 ∧ gR σ 2 0 14 = some 10 ∧ gR σ 2 0 15 = some 11 ∧ gR σ 2 0 16 = some 12 ∧ cO σ 2 0 = some () ∧ (∀ j, gI σ 2 0 j = some (mI σ 2 j)) ∧ (∀ j, gJ σ 2 0 j = some (mJ σ 2 j)) ∧ (∀ j x, pI σ 2 0 j x = some (wI σ 2 j x)) ∧ (∀ j x, pJ σ 2 0 j x = some (wJ σ 2 j x)) ∧ (∀ j x, (x = 0 ∨ x = 1) → pZ σ 2 0 j x = some (wI σ 2 j x)) ∧ (∀ j, j < 6 → aI σ 3 (nI j) = some (mI σ 3 j)) ∧ (∀ j x, j < 6 → tI σ 3 (nI j) x = some (wI σ 3 j x)) ∧ (∀ j, j < 6 → aI σ 4 (nI j) = some (mI σ 4 j)) ∧ (∀ j x, j < 6 → tI σ 4 (nI j) x = some (wI σ 4 j x)) ∧ (∀ j, j < 6 → aI σ 5 (nI j) = some (mI σ 5 j)) ∧ (∀ j x, j < 6 → tI σ 5 (nI j) x = some (wI σ 5 j x)) ∧ (∀ j, j < 6 → aI σ 6 (nI j) = some (mI σ 6 j)) ∧ (∀ j x, j < 6 → tI σ 6 (nI j) x = some (wI σ 6 j x)) ∧ (∀ j, j < 6 → aI σ 7 (nI j) = some (mI σ 7 j)) ∧ (∀ j x, j < 6 → tI σ 7 (nI j) x = some (wI σ 7 j x)) ∧ (∀ j, j < 36 → aI σ 8 (nI j) = some (mI σ 8 j)) ∧ (∀ j x, j < 36 → tI σ 8 (nI j) x = some (wI σ 8 j x)) ∧ (∀ j, j < 36 → aI σ 9 (nI j) = some (mI σ 9 j)) ∧ (∀ j x, j < 36 → tI σ 9 (nI j) x = some (wI σ 9 j x)) ∧ (∀ j, j < 3 → aI σ 10 (nI j) = some (mI σ 10 j)) ∧ (∀ j x, j < 3 → tI σ 10 (nI j) x = some (wI σ 10 j x)) ∧ (∀ j, j < 3 → aI σ 11 (nI j) = some (mI σ 11 j)) ∧ (∀ j x, j < 3 → tI σ 11 (nI j) x = some (wI σ 11 j x)) ∧ (∀ j, j < 3 → aI σ 12 (nI j) = some (mI σ 12 j)) ∧ (∀ j x, j < 3 → tI σ 12 (nI j) x = some (wI σ 12 j x)) ∧ (∀ j, j < 900 → aB σ 13 (nI j) = some (mI σ 13 j)) ∧ (∀ j x, j < 900 → tB σ 13 (nI j) x = some (wI σ 13 j (x.toInt8.toInt32))) ∧ (∀ j, j < 6 → aJ σ 14 (nI j) = some (mJ σ 14 j)) ∧ (∀ j x, j < 6 → tJ σ 14 (nI j) x = some (wJ σ 14 j x)) :=
  ⟨gR_ok (sh_n h (by decide : 1 < 115)) (sh_k h (by decide : 1 < 115)) (h.2.2 (1, 2, 2) (by decide)), gR_ok (sh_n h (by decide : 1 < 115)) (sh_k h (by decide : 1 < 115)) (h.2.2 (1, 4, 13) (by decide)), gR_ok (sh_n h (by decide : 1 < 115)) (sh_k h (by decide : 1 < 115)) (h.2.2 (1, 12, 14) (by decide)), cO_yes (sh_n h (by decide : 1 < 115)) (sh_k h (by decide : 1 < 115)), fun j => gI_ok (sh_n h (by decide : 1 < 115)) (sh_k h (by decide : 1 < 115)), fun j => gJ_ok (sh_n h (by decide : 1 < 115)) (sh_k h (by decide : 1 < 115)), fun j x => pI_ok (sh_n h (by decide : 1 < 115)) (sh_k h (by decide : 1 < 115)), fun j x => pJ_ok (sh_n h (by decide : 1 < 115)) (sh_k h (by decide : 1 < 115)), fun j x hx => pZ_ok (sh_n h (by decide : 1 < 115)) (sh_k h (by decide : 1 < 115)) hx, gR_ok (sh_n h (by decide : 2 < 115)) (sh_k h (by decide : 2 < 115)) (h.2.2 (2, 7, 3) (by decide)), gR_ok (sh_n h (by decide : 2 < 115)) (sh_k h (by decide : 2 < 115)) (h.2.2 (2, 8, 4) (by decide)), gR_ok (sh_n h (by decide : 2 < 115)) (sh_k h (by decide : 2 < 115)) (h.2.2 (2, 9, 5) (by decide)), gR_ok (sh_n h (by decide : 2 < 115)) (sh_k h (by decide : 2 < 115)) (h.2.2 (2, 10, 6) (by decide)), gR_ok (sh_n h (by decide : 2 < 115)) (sh_k h (by decide : 2 < 115)) (h.2.2 (2, 11, 7) (by decide)), gR_ok (sh_n h (by decide : 2 < 115)) (sh_k h (by decide : 2 < 115)) (h.2.2 (2, 12, 8) (by decide)), gR_ok (sh_n h (by decide : 2 < 115)) (sh_k h (by decide : 2 < 115)) (h.2.2 (2, 13, 9) (by decide)), gR_ok (sh_n h (by decide : 2 < 115)) (sh_k h (by decide : 2 < 115)) (h.2.2 (2, 14, 10) (by decide)), gR_ok (sh_n h (by decide : 2 < 115)) (sh_k h (by decide : 2 < 115)) (h.2.2 (2, 15, 11) (by decide)), gR_ok (sh_n h (by decide : 2 < 115)) (sh_k h (by decide : 2 < 115)) (h.2.2 (2, 16, 12) (by decide)), cO_yes (sh_n h (by decide : 2 < 115)) (sh_k h (by decide : 2 < 115)), fun j => gI_ok (sh_n h (by decide : 2 < 115)) (sh_k h (by decide : 2 < 115)), fun j => gJ_ok (sh_n h (by decide : 2 < 115)) (sh_k h (by decide : 2 < 115)), fun j x => pI_ok (sh_n h (by decide : 2 < 115)) (sh_k h (by decide : 2 < 115)), fun j x => pJ_ok (sh_n h (by decide : 2 < 115)) (sh_k h (by decide : 2 < 115)), fun j x hx => pZ_ok (sh_n h (by decide : 2 < 115)) (sh_k h (by decide : 2 < 115)) hx, fun j hj => aI_nI (sh_a h (by decide : 3 < 115) rfl rfl) hj (by decide), fun j x hj => tI_nI (sh_a h (by decide : 3 < 115) rfl rfl) hj (by decide), fun j hj => aI_nI (sh_a h (by decide : 4 < 115) rfl rfl) hj (by decide), fun j x hj => tI_nI (sh_a h (by decide : 4 < 115) rfl rfl) hj (by decide), fun j hj => aI_nI (sh_a h (by decide : 5 < 115) rfl rfl) hj (by decide), fun j x hj => tI_nI (sh_a h (by decide : 5 < 115) rfl rfl) hj (by decide), fun j hj => aI_nI (sh_a h (by decide : 6 < 115) rfl rfl) hj (by decide), fun j x hj => tI_nI (sh_a h (by decide : 6 < 115) rfl rfl) hj (by decide), fun j hj => aI_nI (sh_a h (by decide : 7 < 115) rfl rfl) hj (by decide), fun j x hj => tI_nI (sh_a h (by decide : 7 < 115) rfl rfl) hj (by decide), fun j hj => aI_nI (sh_a h (by decide : 8 < 115) rfl rfl) hj (by decide), fun j x hj => tI_nI (sh_a h (by decide : 8 < 115) rfl rfl) hj (by decide), fun j hj => aI_nI (sh_a h (by decide : 9 < 115) rfl rfl) hj (by decide), fun j x hj => tI_nI (sh_a h (by decide : 9 < 115) rfl rfl) hj (by decide), fun j hj => aI_nI (sh_a h (by decide : 10 < 115) rfl rfl) hj (by decide), fun j x hj => tI_nI (sh_a h (by decide : 10 < 115) rfl rfl) hj (by decide), fun j hj => aI_nI (sh_a h (by decide : 11 < 115) rfl rfl) hj (by decide), fun j x hj => tI_nI (sh_a h (by decide : 11 < 115) rfl rfl) hj (by decide), fun j hj => aI_nI (sh_a h (by decide : 12 < 115) rfl rfl) hj (by decide), fun j x hj => tI_nI (sh_a h (by decide : 12 < 115) rfl rfl) hj (by decide), fun j hj => aB_nI (sh_b h (by decide : 13 < 115) rfl rfl) hj (by decide), fun j x hj => tB_nI (sh_b h (by decide : 13 < 115) rfl rfl) hj (by decide), fun j hj => aJ_nI (sh_j h (by decide : 14 < 115) rfl rfl) hj (by decide), fun j x hj => tJ_nI (sh_j h (by decide : 14 < 115) rfl rfl) hj (by decide)⟩
theorem acM {σ : xM} (h : Sh σ) : gR σ 102 9 5 = some 103 ∧ gR σ 102 9 16 = some 104 ∧ gR σ 102 9 17 = some 105 ∧ gR σ 102 9 18 = some 106 ∧ gR σ 102 9 19 = some 107 ∧ gR σ 102 9 22 = some 108 ∧ gR σ 102 9 23 = some 109 ∧ gR σ 102 9 27 = some 110 ∧ gR σ 102 9 28 = some 111 ∧ gR σ 102 9 30 = some 112 ∧ gR σ 102 9 31 = some 113 ∧ gR σ 102 9 32 = some 114 ∧ cO σ 102 9 = some () ∧ (∀ j, gI σ 102 9 j = some (mI σ 102 j)) ∧ (∀ j, gJ σ 102 9 j = some (mJ σ 102 j)) ∧ (∀ j x, pI σ 102 9 j x = some (wI σ 102 j x)) ∧ (∀ j x, pJ σ 102 9 j x = some (wJ σ 102 j x)) ∧ (∀ j x, (x = 0 ∨ x = 1) → pZ σ 102 9 j x = some (wI σ 102 j x)) ∧ (∀ j, j < 900 → aB σ 103 (nI j) = some (mI σ 103 j)) ∧ (∀ j x, j < 900 → tB σ 103 (nI j) x = some (wI σ 103 j (x.toInt8.toInt32))) ∧ (∀ j, j < 47 → aI σ 104 (nI j) = some (mI σ 104 j)) ∧ (∀ j x, j < 47 → tI σ 104 (nI j) x = some (wI σ 104 j x)) ∧ (∀ j, j < 47 → aI σ 105 (nI j) = some (mI σ 105 j)) ∧ (∀ j x, j < 47 → tI σ 105 (nI j) x = some (wI σ 105 j x)) ∧ (∀ j, j < 752 → aI σ 106 (nI j) = some (mI σ 106 j)) ∧ (∀ j x, j < 752 → tI σ 106 (nI j) x = some (wI σ 106 j x)) ∧ (∀ j, j < 141 → aI σ 107 (nI j) = some (mI σ 107 j)) ∧ (∀ j x, j < 141 → tI σ 107 (nI j) x = some (wI σ 107 j x)) ∧ (∀ j, j < 6 → aI σ 108 (nI j) = some (mI σ 108 j)) ∧ (∀ j x, j < 6 → tI σ 108 (nI j) x = some (wI σ 108 j x)) ∧ (∀ j, j < 6 → aI σ 109 (nI j) = some (mI σ 109 j)) ∧ (∀ j x, j < 6 → tI σ 109 (nI j) x = some (wI σ 109 j x)) ∧ (∀ j, j < 64 → aI σ 110 (nI j) = some (mI σ 110 j)) ∧ (∀ j x, j < 64 → tI σ 110 (nI j) x = some (wI σ 110 j x)) ∧ (∀ j, j < 64 → aI σ 111 (nI j) = some (mI σ 111 j)) ∧ (∀ j x, j < 64 → tI σ 111 (nI j) x = some (wI σ 111 j x)) ∧ (∀ j, j < 3 → aI σ 112 (nI j) = some (mI σ 112 j)) ∧ (∀ j x, j < 3 → tI σ 112 (nI j) x = some (wI σ 112 j x)) ∧ (∀ j, j < 21 → aI σ 113 (nI j) = some (mI σ 113 j)) ∧ (∀ j x, j < 21 → tI σ 113 (nI j) x = some (wI σ 113 j x)) ∧ (∀ j, j < 36 → aI σ 114 (nI j) = some (mI σ 114 j)) ∧ (∀ j x, j < 36 → tI σ 114 (nI j) x = some (wI σ 114 j x)) :=
  ⟨gR_ok (sh_n h (by decide : 102 < 115)) (sh_k h (by decide : 102 < 115)) (h.2.2 (102, 5, 103) (by decide)), gR_ok (sh_n h (by decide : 102 < 115)) (sh_k h (by decide : 102 < 115)) (h.2.2 (102, 16, 104) (by decide)), gR_ok (sh_n h (by decide : 102 < 115)) (sh_k h (by decide : 102 < 115)) (h.2.2 (102, 17, 105) (by decide)), gR_ok (sh_n h (by decide : 102 < 115)) (sh_k h (by decide : 102 < 115)) (h.2.2 (102, 18, 106) (by decide)), gR_ok (sh_n h (by decide : 102 < 115)) (sh_k h (by decide : 102 < 115)) (h.2.2 (102, 19, 107) (by decide)), gR_ok (sh_n h (by decide : 102 < 115)) (sh_k h (by decide : 102 < 115)) (h.2.2 (102, 22, 108) (by decide)), gR_ok (sh_n h (by decide : 102 < 115)) (sh_k h (by decide : 102 < 115)) (h.2.2 (102, 23, 109) (by decide)), gR_ok (sh_n h (by decide : 102 < 115)) (sh_k h (by decide : 102 < 115)) (h.2.2 (102, 27, 110) (by decide)), gR_ok (sh_n h (by decide : 102 < 115)) (sh_k h (by decide : 102 < 115)) (h.2.2 (102, 28, 111) (by decide)), gR_ok (sh_n h (by decide : 102 < 115)) (sh_k h (by decide : 102 < 115)) (h.2.2 (102, 30, 112) (by decide)), gR_ok (sh_n h (by decide : 102 < 115)) (sh_k h (by decide : 102 < 115)) (h.2.2 (102, 31, 113) (by decide)), gR_ok (sh_n h (by decide : 102 < 115)) (sh_k h (by decide : 102 < 115)) (h.2.2 (102, 32, 114) (by decide)), cO_yes (sh_n h (by decide : 102 < 115)) (sh_k h (by decide : 102 < 115)), fun j => gI_ok (sh_n h (by decide : 102 < 115)) (sh_k h (by decide : 102 < 115)), fun j => gJ_ok (sh_n h (by decide : 102 < 115)) (sh_k h (by decide : 102 < 115)), fun j x => pI_ok (sh_n h (by decide : 102 < 115)) (sh_k h (by decide : 102 < 115)), fun j x => pJ_ok (sh_n h (by decide : 102 < 115)) (sh_k h (by decide : 102 < 115)), fun j x hx => pZ_ok (sh_n h (by decide : 102 < 115)) (sh_k h (by decide : 102 < 115)) hx, fun j hj => aB_nI (sh_b h (by decide : 103 < 115) rfl rfl) hj (by decide), fun j x hj => tB_nI (sh_b h (by decide : 103 < 115) rfl rfl) hj (by decide), fun j hj => aI_nI (sh_a h (by decide : 104 < 115) rfl rfl) hj (by decide), fun j x hj => tI_nI (sh_a h (by decide : 104 < 115) rfl rfl) hj (by decide), fun j hj => aI_nI (sh_a h (by decide : 105 < 115) rfl rfl) hj (by decide), fun j x hj => tI_nI (sh_a h (by decide : 105 < 115) rfl rfl) hj (by decide), fun j hj => aI_nI (sh_a h (by decide : 106 < 115) rfl rfl) hj (by decide), fun j x hj => tI_nI (sh_a h (by decide : 106 < 115) rfl rfl) hj (by decide), fun j hj => aI_nI (sh_a h (by decide : 107 < 115) rfl rfl) hj (by decide), fun j x hj => tI_nI (sh_a h (by decide : 107 < 115) rfl rfl) hj (by decide), fun j hj => aI_nI (sh_a h (by decide : 108 < 115) rfl rfl) hj (by decide), fun j x hj => tI_nI (sh_a h (by decide : 108 < 115) rfl rfl) hj (by decide), fun j hj => aI_nI (sh_a h (by decide : 109 < 115) rfl rfl) hj (by decide), fun j x hj => tI_nI (sh_a h (by decide : 109 < 115) rfl rfl) hj (by decide), fun j hj => aI_nI (sh_a h (by decide : 110 < 115) rfl rfl) hj (by decide), fun j x hj => tI_nI (sh_a h (by decide : 110 < 115) rfl rfl) hj (by decide), fun j hj => aI_nI (sh_a h (by decide : 111 < 115) rfl rfl) hj (by decide), fun j x hj => tI_nI (sh_a h (by decide : 111 < 115) rfl rfl) hj (by decide), fun j hj => aI_nI (sh_a h (by decide : 112 < 115) rfl rfl) hj (by decide), fun j x hj => tI_nI (sh_a h (by decide : 112 < 115) rfl rfl) hj (by decide), fun j hj => aI_nI (sh_a h (by decide : 113 < 115) rfl rfl) hj (by decide), fun j x hj => tI_nI (sh_a h (by decide : 113 < 115) rfl rfl) hj (by decide), fun j hj => aI_nI (sh_a h (by decide : 114 < 115) rfl rfl) hj (by decide), fun j x hj => tI_nI (sh_a h (by decide : 114 < 115) rfl rfl) hj (by decide)⟩
