/-! HOURS THAT AREN'T SURE: codes, hours, registers; the class -/
/-- the hour as it was told, the first and how many it may be -/
def hv (C : Cty) (k : Nat) : Nat := (r0 C (hb C k) (ho C k)).getD 0
def lw (C : Cty) (k : Nat) : Nat := if k < nHe C then hv C k - hg C k else 0
def sp (C : Cty) (k : Nat) : Nat := if k < nHe C then hv C k + hg C k - lw C k + 1 else 1
def wg (C : Cty) (k : Nat) : Nat := if k = 0 then sp C 2 * sp C 1 else if k = 1 then sp C 2 else 1
def cds (C : Cty) : Nat := sp C 2 * sp C 1 * sp C 0
def dg (C : Cty) (x k : Nat) : Nat := x / wg C k % sp C k
/-- the last of the first n heard whose pair this is -/
def lst (C : Cty) (p q : Nat) : Nat → Option Nat
  | 0 => none
  | n + 1 => if hb C n = p ∧ ho C n = q then some n else lst C p q n
def rgF (C : Cty) (x p q : Nat) : Option Nat := match lst C p q (nHe C) with
  | some k => some (lw C k + dg C x k)
  | none => r0 C p q
/-- the heir by a register, if all live -/
def heF (C : Cty) (g : Nat → Nat → Option Nat) (q : Nat) : Option Nat := heN (fun p => g p q) (fun p => decide (¬ p = q) && tb (2 ^ pe C - 1) p) 6
def wrG (C : Cty) (g : Nat → Nat → Option Nat) (p : Nat) : Bool := match wn C p with
  | none => false
  | some w => decide (¬ w = heF C g p)
/-- a code fits -/
def fok (C : Cty) (x : Nat) : Bool := (fs (wrG C (rgF C x)) 0 6).isNone
/-- how many of the first ones -/
def cnF (c : Nat → Bool) : Nat → Nat
  | 0 => 0
  | j + 1 => if c j then cnF c j + 1 else cnF c j
theorem cnF_le (c : Nat → Bool) : ∀ j, cnF c j ≤ j := by
  intro j
  induction j with
  | zero => exact Nat.le_refl _
  | succ j ih =>
    rw [cnF]
    split <;> omega
theorem sp_b {C : Cty} (hO : OkC C) (k : Nat) : 1 ≤ sp C k ∧ sp C k ≤ 7 ∧ lw C k ≤ 99 ∧ lw C k + sp C k ≤ 103 := by
  obtain ⟨o1, o2, o3, o4, o5, o6, o7, o8, o9, o10, o11, o12, o13⟩ := hO
  unfold sp lw
  by_cases e : k < nHe C
  · rw [if_pos e, if_pos e]
    obtain ⟨a, b, d, h, hh⟩ := o13 k e
    have := (o8 _ _ h hh).2.2
    have e2 : hv C k = h := by unfold hv; rw [hh]; rfl
    rw [e2]
    omega
  · rw [if_neg e, if_neg e]
    omega
theorem wg_b {C : Cty} (hO : OkC C) (k : Nat) : 1 ≤ wg C k ∧ wg C k ≤ 49 := by
  have h1 := sp_b hO 1
  have h2 := sp_b hO 2
  have h3 : sp C 2 * sp C 1 ≤ 7 * 7 := Nat.mul_le_mul h2.2.1 h1.2.1
  have h4 : 1 * 1 ≤ sp C 2 * sp C 1 := Nat.mul_le_mul h2.1 h1.1
  unfold wg
  split
  · omega
  · split <;> omega
theorem cds_b {C : Cty} (hO : OkC C) : 1 ≤ cds C ∧ cds C ≤ 343 := by
  have h0 := sp_b hO 0
  have h1 := sp_b hO 1
  have h2 := sp_b hO 2
  have h3 : sp C 2 * sp C 1 ≤ 7 * 7 := Nat.mul_le_mul h2.2.1 h1.2.1
  have h4 : 1 * 1 ≤ sp C 2 * sp C 1 := Nat.mul_le_mul h2.1 h1.1
  have h5 : sp C 2 * sp C 1 * sp C 0 ≤ 7 * 7 * 7 := Nat.mul_le_mul h3 h0.2.1
  have h6 : 1 * 1 * 1 ≤ sp C 2 * sp C 1 * sp C 0 := Nat.mul_le_mul h4 h0.1
  unfold cds
  omega
theorem dg_lt {C : Cty} (hO : OkC C) (x k : Nat) : dg C x k < sp C k := Nat.mod_lt _ (sp_b hO k).1
theorem rgF_b {C : Cty} (hO : OkC C) (x : Nat) : ∀ p q h, rgF C x p q = some h → h < 2 ^ 31 := fun p q h e => by
  unfold rgF at e
  cases e2 : lst C p q (nHe C) with
  | none =>
    rw [e2] at e
    have h1 := (hO.2.2.2.2.2.2.2.1 p q h e).2.2
    have h2 := hO.2.2.2.2.2.2.2.2.2.1
    omega
  | some k =>
    rw [e2] at e
    have h1 := sp_b hO k
    have h2 := dg_lt hO x k
    have h3 := Option.some.inj e
    omega
def Pfi : Nat → Nat → Bool := fun a _ => [96, 97, 98, 99, 100, 101].any (fun b => Nat.beq a b)
theorem fi_Q {σ τ : xM} (h : Upd Pfi σ τ) : Upd PcQ σ τ := h.mono (fun a k hq => by
  unfold PcQ at hq
  rw [Bool.or_eq_false_iff] at hq
  unfold Pfi
  refine anyF (fun b hb e => ?_)
  have := List.any_eq_false.mp hq.1 b (by simp at hb ⊢; omega)
  rw [e] at this
  simp at this)
theorem Pfi_15 : ∀ i k, i ≤ 10 → Pfi (15 + i) k = false := by
  intro i k hi
  rcases (by omega : i = 0 ∨ i = 1 ∨ i = 2 ∨ i = 3 ∨ i = 4 ∨ i = 5 ∨ i = 6 ∨ i = 7 ∨ i = 8 ∨ i = 9 ∨ i = 10) with e | e | e | e | e | e | e | e | e | e | e <;> subst e <;> rfl
/-- the class's Fits as open leaves it -/
def foA (τ : xM) (C : Cty) : Prop := mI τ 96 0 = nI (cds C) ∧ ∀ k, k < 3 → mI τ 97 k = nI (lw C k) ∧ mI τ 98 k = nI (sp C k) ∧ mI τ 99 k = nI (wg C k)
def fo (τ : xM) (C : Cty) : Prop := foA τ C ∧ ∀ p, p < 6 → ∀ q, q < 6 → lst C p q (nHe C) = none → mI τ 100 (p * 6 + q) = rC (r0 C p q)
theorem foA_upd {P : Nat → Nat → Bool} {σ τ : xM} {C : Cty} (hu : Upd P σ τ) (h1 : ∀ a k, 96 ≤ a → a ≤ 99 → P a k = false) (h : foA σ C) : foA τ C := by
  obtain ⟨a, b⟩ := h
  refine ⟨by rw [hu.2.1 _ _ (h1 _ _ (by omega) (by omega))]; exact a, fun k hk => ?_⟩
  rw [hu.2.1 _ _ (h1 _ _ (by omega) (by omega)), hu.2.1 _ _ (h1 _ _ (by omega) (by omega)), hu.2.1 _ _ (h1 _ _ (by omega) (by omega))]
  exact b k hk
theorem fo_upd {P : Nat → Nat → Bool} {σ τ : xM} {C : Cty} (hu : Upd P σ τ) (h1 : ∀ a k, 96 ≤ a → a ≤ 100 → P a k = false) (h : fo σ C) : fo τ C := by
  refine ⟨foA_upd hu (fun a k h2 h3 => h1 a k h2 (by omega)) h.1, fun p hp q hq hl => ?_⟩
  rw [hu.2.1 _ _ (h1 _ _ (by omega) (by omega))]
  exact h.2 p hp q hq hl
section CLASS
variable {σ : xM} {C : Cty} {s : Sta}
/-- one heard one of open -/
theorem f7_step (hS : Sh σ) (hC : cC σ 15 C) (hO : OkC C) {k w : Nat} (hk : k < 3) (hw : mI σ 96 0 = nI w) (hw49 : w ≤ 49) {m M : Nat} (hMm : M = m + 1) : ∃ τ, f7_22 M 96 15 (nI k) σ = f7_22 m 96 15 (nI k + (-1)) τ ∧ Upd Pfi σ τ ∧ mI τ 96 0 = nI (w * sp C k) ∧ mI τ 97 k = nI (lw C k) ∧ mI τ 98 k = nI (sp C k) ∧ mI τ 99 k = nI w ∧ (∀ a j, (a = 97 ∨ a = 98 ∨ a = 99) → j ≠ k → mI τ a j = mI σ a j) ∧ ∀ j, mI τ 100 j = mI σ 100 j := by
  have hb := sp_b hO k
  have hn := hO.2.2.2.2.2.2.2.2.2.2.2.1
  have fin : ∀ x y : Nat, x = lw C k → y = sp C k → ∃ τ, f7_106 (f7_22 m) 96 15 (nI k) (nI y) (nI k) 98 (wI σ 97 k (nI x)) = f7_22 m 96 15 (nI k + (-1)) τ ∧ Upd Pfi σ τ ∧ mI τ 96 0 = nI (w * sp C k) ∧ mI τ 97 k = nI (lw C k) ∧ mI τ 98 k = nI (sp C k) ∧ mI τ 99 k = nI w ∧ (∀ a j, (a = 97 ∨ a = 98 ∨ a = 99) → j ≠ k → mI τ a j = mI σ a j) ∧ ∀ j, mI τ 100 j = mI σ 100 j := by
    rintro x y rfl rfl
    have hS1 : Sh (wI σ 97 k (nI (lw C k))) := hS
    have hS2 : Sh (wI (wI σ 97 k (nI (lw C k))) 98 k (nI (sp C k))) := hS
    have hS3 : Sh (wI (wI (wI σ 97 k (nI (lw C k))) 98 k (nI (sp C k))) 99 k (nI w)) := hS
    have e1 : mI (wI (wI σ 97 k (nI (lw C k))) 98 k (nI (sp C k))) 96 0 = nI w := by
      rw [mI_w, if_neg (by omega), mI_w, if_neg (by omega)]
      exact hw
    have e2 : mI (wI (wI (wI σ 97 k (nI (lw C k))) 98 k (nI (sp C k))) 99 k (nI w)) 96 0 = nI w := by
      rw [mI_w, if_neg (by omega)]
      exact e1
    have e3 : mI (wI (wI (wI σ 97 k (nI (lw C k))) 98 k (nI (sp C k))) 99 k (nI w)) 98 k = nI (sp C k) := by
      rw [mI_w, if_neg (by omega), mI_w, if_pos ⟨rfl, rfl⟩]
    refine ⟨wI (wI (wI (wI σ 97 k (nI (lw C k))) 98 k (nI (sp C k))) 99 k (nI w)) 96 0 (nI (w * sp C k)), ?_, (((Upd.refl.wI rfl).wI rfl).wI rfl).wI rfl, ?_, ?_, ?_, ?_, fun a j ha hj => ?_, fun j => ?_⟩
    · unfold f7_106
      simp only [acW hS1, Option.bind_some, hk]
      simp only [acW hS2, Option.bind_some, hk, e1]
      simp only [acW hS3, Option.bind_some, hk, e2, e3, pk_mul]
    · rw [mI_w, if_pos ⟨rfl, rfl⟩]
    · rw [mI_w, if_neg (by omega), mI_w, if_neg (by omega), mI_w, if_neg (by omega), mI_w, if_pos ⟨rfl, rfl⟩]
    · rw [mI_w, if_neg (by omega)]
      exact e3
    · rw [mI_w, if_neg (by omega), mI_w, if_pos ⟨rfl, rfl⟩]
    · rw [mI_w, if_neg (by omega), mI_w, if_neg (by omega), mI_w, if_neg (by omega), mI_w, if_neg (by omega)]
    · rw [mI_w, if_neg (by omega), mI_w, if_neg (by omega), mI_w, if_neg (by omega), mI_w, if_neg (by omega)]
  subst hMm
  rw [f7_22, if_neg (nI_pos (by omega))]
  have r1 : gI σ 15 0 5 = some (nI (nHe C)) := by simp only [acC hS, hC.1.2.2.2.2.2.1]
  rw [r1, Option.bind_some]
  have hS1 : ∀ x, Sh (wI σ 97 k x) := fun _ => hS
  by_cases e : k < nHe C
  · obtain ⟨h1, h2, h3⟩ := hC.2.2.2.2 k e
    obtain ⟨a, b, d, h, hh⟩ := hO.2.2.2.2.2.2.2.2.2.2.2.2 k e
    have hh2 : hv C k = h := by unfold hv; rw [hh]; rfl
    have hb9 := (hO.2.2.2.2.2.2.2.1 _ _ h hh).2.2
    have h99 := hO.2.2.2.2.2.2.2.2.2.1
    rw [hh] at h2
    have h2 : mI σ 24 k = nI h := h2
    have h3 : mI σ 25 k = nI (hg C k) := h3
    rw [if_neg (nI_ge e (by omega))]
    unfold f7_39 f7_70
    simp only [acC hS, acW hS, Option.bind_some, hk, h2, h3]
    rw [if_neg (by decide)]
    have el : (if nI h - nI (hg C k) > 0 then nI h - nI (hg C k) else 0) = nI (lw C k) := by
      unfold lw
      rw [if_pos e, hh2]
      by_cases e2 : hg C k < h
      · rw [pk_sub (by omega), if_pos (show nI (h - hg C k) > 0 from nI_lt (a := 0) (b := h - hg C k) (by omega) (by omega))]
      · by_cases e3 : h = hg C k
        · rw [e3, show nI (hg C k) - nI (hg C k) = nI (hg C k - hg C k) from pk_sub (Nat.le_refl _), Nat.sub_self]
          rfl
        · have hneg := pk_sneg (a := h) (b := hg C k) (by omega) (by omega)
          rw [if_neg (Int32.not_lt.mpr (Int32.le_of_lt hneg)), show h - hg C k = 0 by omega]
          rfl
    rw [el]
    have e24 : mI (wI σ 97 k (nI (lw C k))) 24 k = nI h := by rw [mI_w, if_neg (by omega)]; exact h2
    have e25 : mI (wI σ 97 k (nI (lw C k))) 25 k = nI (hg C k) := by rw [mI_w, if_neg (by omega)]; exact h3
    have e97 : mI (wI σ 97 k (nI (lw C k))) 97 k = nI (lw C k) := by rw [mI_w, if_pos ⟨rfl, rfl⟩]
    simp only [acC (hS1 _), acW (hS1 _), Option.bind_some, hk, e24, e25, e97]
    rw [nI_add, pk_sub (by unfold lw; rw [if_pos e, hh2]; omega), nI_1]
    exact fin (lw C k) _ rfl (by unfold sp; rw [if_pos e, hh2])
  · rw [if_pos (nI_le (by omega) (by omega))]
    unfold f7_39 f7_70
    simp only [acW hS, Option.bind_some, hk, if_true, acW (hS1 _)]
    have := fin 0 1 (by unfold lw; rw [if_neg e]) (by unfold sp; rw [if_neg e])
    exact this
/-- open -/
theorem f7N (hS : Sh σ) (hC : cC σ 15 C) (hO : OkC C) : ∃ τ, f7 96 15 σ = some τ ∧ Upd Pfi σ τ ∧ fo τ C := by
  have hS0 : Sh (wI σ 96 0 1) := hS
  have hcp := cpN (a := 100) (b := 21) (n := 36) (sh_a hS0 (by decide) rfl rfl) (sh_a hS0 (by decide) rfl rfl) (by decide)
  generalize hτ0 : wA (wI σ 96 0 1) 100 (va_cpy (mI (wI σ 96 0 1) 21) (mI (wI σ 96 0 1) 100) 0 0 36) = τ0 at hcp
  have u0 : Upd Pfi σ τ0 := by
    rw [← hτ0]
    exact (Upd.refl.wI rfl).wA (fun _ => rfl)
  have z0 : mI τ0 96 0 = nI 1 := by
    rw [← hτ0, mI_wA, if_neg (by omega), mI_w, if_pos ⟨rfl, rfl⟩]
    rfl
  have g0 : ∀ j, j < 36 → mI τ0 100 j = mI σ 21 j := fun j hj => by
    rw [← hτ0, mI_wA, if_pos rfl, pk_cpy_in (by omega) (by omega), mI_w, if_neg (by omega), Nat.sub_zero, Nat.zero_add]
  have cc : ∀ τ, Upd Pfi σ τ → Sh τ ∧ cC τ 15 C := fun τ hu => ⟨hu.sh hS, cC_upd hu Pfi_15 hC⟩
  have b1 := sp_b hO 1
  have b2 := sp_b hO 2
  have b3 : sp C 2 * sp C 1 ≤ 7 * 7 := Nat.mul_le_mul b2.2.1 b1.2.1
  obtain ⟨τ1, a1, a2, a3, a4, a5, a6, a7, a8⟩ := f7_step (M := 1100) (cc τ0 u0).1 (cc τ0 u0).2 hO (k := 2) (w := 1) (by omega) z0 (by omega) rfl
  have u1 := u0.trans a2
  obtain ⟨τ2, d1, d2, d3, d4, d5, d6, d7, d8⟩ := f7_step (M := 1099) (cc τ1 u1).1 (cc τ1 u1).2 hO (k := 1) (w := 1 * sp C 2) (by omega) a3 (by omega) rfl
  have u2 := u1.trans d2
  obtain ⟨τ3, e1, e2, e3, e4, e5, e6, e7, e8⟩ := f7_step (M := 1098) (cc τ2 u2).1 (cc τ2 u2).2 hO (k := 0) (w := 1 * sp C 2 * sp C 1) (by omega) d3 (by rw [Nat.one_mul]; omega) rfl
  have u3 := u2.trans e2
  have r1 : pI σ 96 1 0 1 = some (wI σ 96 0 1) := by simp only [acW hS]
  have r2 : gR (wI σ 96 0 1) 15 0 12 = some 21 := by simp only [acC hS0]
  have r3 : gR (wI σ 96 0 1) 96 1 4 = some 100 := by simp only [acW hS0]
  refine ⟨τ3, ?_, u3, ⟨?_, fun k hk => ?_⟩, fun p hp q hq _ => ?_⟩
  · unfold f7
    rw [r1, Option.bind_some, r2, Option.bind_some, r3, Option.bind_some, show (36 : Int32) = nI 36 from rfl, hcp, Option.bind_some, show (2 : Int32) = nI 2 from rfl, a1, show nI 2 + (-1) = nI 1 from rfl, d1, show nI 1 + (-1) = nI 0 from rfl, e1]
    show f7_22 (1096 + 1) _ _ _ _ = _
    rw [f7_22, if_pos (show nI 0 + (-1) < 0 by decide)]
    rfl
  · rw [e3, Nat.one_mul]
    rfl
  · rcases (by omega : k = 0 ∨ k = 1 ∨ k = 2) with rfl | rfl | rfl
    · exact ⟨e4, e5, by rw [e6, Nat.one_mul]; rfl⟩
    · refine ⟨?_, ?_, ?_⟩
      · rw [e7 97 1 (by omega) (by omega)]; exact d4
      · rw [e7 98 1 (by omega) (by omega)]; exact d5
      · rw [e7 99 1 (by omega) (by omega), d6, Nat.one_mul]; rfl
    · refine ⟨?_, ?_, ?_⟩
      · rw [e7 97 2 (by omega) (by omega), d7 97 2 (by omega) (by omega)]; exact a4
      · rw [e7 98 2 (by omega) (by omega), d7 98 2 (by omega) (by omega)]; exact a5
      · rw [e7 99 2 (by omega) (by omega), d7 99 2 (by omega) (by omega), a6]; rfl
  · rw [e8, d8, a8, g0 _ (by omega)]
    exact hC.2.2.2.1 p hp q hq
/-- hourBy -/
theorem f8N (hS : Sh σ) (hO : OkC C) (hf : foA σ C) {x k : Nat} (hx : x < 2 ^ 31) (hk : k < 3) : f8 96 (nI x) (nI k) σ = some (nI (lw C k + dg C x k), σ) := by
  obtain ⟨h1, h2, h3⟩ := hf.2 k hk
  have b1 := sp_b hO k
  have b2 := wg_b hO k
  have b3 : x / wg C k ≤ x := Nat.div_le_self _ _
  unfold f8
  rw [if_neg (nI_pos (by omega)), if_neg (show ¬ (3 : Int32) ≤ nI k from nI_ge (b := 3) hk (by omega))]
  simp only [acW hS, Option.bind_some, hk, h1, h2, h3]
  rw [if_neg (nI_nle (by omega) (by omega)), if_pos (show (0 : Int32) < nI (sp C k) from nI_lt (a := 0) (by omega) (by omega)), dIN hx (by omega) (by omega), Option.bind_some, rIN (by omega) (by omega) (by omega), Option.bind_some, nI_add]
  rfl
def P100 : Nat → Nat → Bool := fun a _ => Nat.beq a 100
theorem fi_100 {τ : xM} (h : Upd P100 σ τ) : Upd Pfi σ τ := h.mono (fun a k hq => by
  have h100 := List.any_eq_false.mp hq 100 (by simp)
  exact beqF (fun e => by rw [e] at h100; simp at h100))
theorem P100_lo : ∀ a k, 96 ≤ a → a ≤ 99 → P100 a k = false := fun a k h1 h2 => beqF (by omega)
/-- holds -/
theorem f9N (hS : Sh σ) (hC : cC σ 15 C) (hO : OkC C) (hf : fo σ C) {x : Nat} (hx : x < 2 ^ 31) : ∃ τ, f9 96 15 (nI x) σ = some (bo (fok C x), τ) ∧ Upd P100 σ τ ∧ fo τ C ∧ ∀ p, p < 6 → ∀ q, q < 6 → mI τ 100 (p * 6 + q) = rC (rgF C x p q) := by
  have h6 := hO.1
  have hn := hO.2.2.2.2.2.2.2.2.2.2.2.1
  have A1 : ∃ τ, f9 96 15 (nI x) σ = f9_33 96 15 τ ∧ Upd P100 σ τ ∧ ∀ p, p < 6 → ∀ q, q < 6 → mI τ 100 (p * 6 + q) = (match lst C p q (nHe C) with
      | some k => nI (lw C k + dg C x k)
      | none => mI σ 100 (p * 6 + q)) := by
    unfold f9
    refine lpI (fun m j τ => f9_2 m 96 15 (nI x) (nI j) τ) (nHe C) (fun j τ => Upd P100 σ τ ∧ ∀ p, p < 6 → ∀ q, q < 6 → mI τ 100 (p * 6 + q) = (match lst C p q j with
      | some k => nI (lw C k + dg C x k)
      | none => mI σ 100 (p * 6 + q))) (fun o => ∃ τ, o = f9_33 96 15 τ ∧ Upd P100 σ τ ∧ ∀ p, p < 6 → ∀ q, q < 6 → mI τ 100 (p * 6 + q) = (match lst C p q (nHe C) with
      | some k => nI (lw C k + dg C x k)
      | none => mI σ 100 (p * 6 + q))) (fun j hj m τ hI => ?_) (fun m τ hI => ?_) (nHe C) 1100 0 σ (by omega) (by omega) ⟨Upd.refl, fun p hp q hq => rfl⟩
    · obtain ⟨hu, hr⟩ := hI
      have hS' := hu.sh hS
      have hC' : cC τ 15 C := cC_upd (fi_100 hu) Pfi_15 hC
      have hj3 : j < 3 := by omega
      have hf8 := f8N (k := j) hS' hO (foA_upd hu P100_lo hf.1) hx hj3
      obtain ⟨p1, p2, p3, -⟩ := hO.2.2.2.2.2.2.2.2.2.2.2.2 j hj
      have h23 : mI τ 23 j = nI (hb C j * 6 + ho C j) := (hC'.2.2.2.2 j hj).1
      refine ⟨wI τ 100 (hb C j * 6 + ho C j) (nI (lw C j + dg C x j)), ⟨hu.wI rfl, fun p hp q hq => ?_⟩, ?_⟩
      · rw [mI_w, lst]
        by_cases e : hb C j = p ∧ ho C j = q
        · rw [if_pos e, if_pos ⟨rfl, by rw [e.1, e.2]⟩]
        · rw [if_neg e, if_neg (fun h => e (by omega))]
          exact hr p hp q hq
      · show f9_2 (m + 1) _ _ _ _ _ = f9_2 m _ _ _ _ _
        rw [f9_2]
        simp only [acC hS', acW hS', Option.bind_some, hC'.1.2.2.2.2.2.1, hj3, h23, hf8, show hb C j * 6 + ho C j < 36 by omega, nI_1]
        rw [if_neg (nI_ge hj (by omega))]
    · obtain ⟨hu, hr⟩ := hI
      have hS' := hu.sh hS
      have hC' : cC τ 15 C := cC_upd (fi_100 hu) Pfi_15 hC
      refine ⟨τ, ?_, hu, hr⟩
      show f9_2 (m + 1) _ _ _ _ _ = _
      rw [f9_2]
      simp only [acC hS', Option.bind_some, hC'.1.2.2.2.2.2.1]
      rw [if_pos (nI_le (by omega) (by omega))]
  obtain ⟨τ, t1, t2, t3⟩ := A1
  have hS' := t2.sh hS
  have hC' : cC τ 15 C := cC_upd (fi_100 t2) Pfi_15 hC
  have hreg : ∀ p, p < 6 → ∀ q, q < 6 → mI τ 100 (p * 6 + q) = rC (rgF C x p q) := fun p hp q hq => by
    rw [t3 p hp q hq]
    unfold rgF
    cases e : lst C p q (nHe C) with
    | some k => rfl
    | none => exact hf.2 p hp q hq e
  refine ⟨τ, ?_, t2, ⟨foA_upd t2 P100_lo hf.1, fun p hp q hq hl => ?_⟩, hreg⟩
  · rw [t1]
    unfold f9_33
    have hl63 : 2 ^ pe C - 1 < 64 := by
      have h1 : 2 ^ pe C ≤ 2 ^ 6 := Nat.pow_le_pow_right (by omega) h6
      omega
    have e1 : ∀ m j, j < 6 → f9_35 (m + 1) 96 15 (nI j) τ = if wrG C (rgF C x) j = false then f9_35 m 96 15 (nI (j + 1)) τ else some (bo false, τ) := fun m j hj => by
      have hw : mI τ 20 j = wC (wn C j) := (hC'.2.2.1 j hj).2
      rw [f9_35, if_neg (show ¬ (6 : Int32) ≤ nI j from nI_ge (b := 6) hj (by omega))]
      unfold f9_75
      simp only [acC hS', acW hS', Option.bind_some, hj, hw, wC_m3 hO j, f3, hC'.1.2.2.1, evN _ h6, nI_1, f58N (r := 100) (g := rgF C x) (sh_a hS' (by decide) rfl rfl) hreg (rgF_b hO x) hl63 hj, rZ0]
      unfold wrG
      cases ew : wn C j with
      | none => simp
      | some w =>
        have he : (wC (some w) = ob (heN (fun p => rgF C x p j) (fun p => decide (¬ p = j) && tb (2 ^ pe C - 1) p) 6)) = (w = heF C (rgF C x) j) := by
          have h1 : wC (some w) = ob w := by cases w <;> rfl
          rw [h1]
          exact propext (ob_eq (fun k ek => wn_6 hO (ek ▸ ew)) (fun k ek => ((heN_congr (j := 6) (fun i _ => ⟨rfl, rfl⟩)).2 k ek).1))
        simp only [he]
        by_cases e2 : w = heF C (rgF C x) j
        · simp [e2]
        · simp [e2]
    have hl : f9_35 1100 96 15 (nI 0) τ = some (bo (fs (wrG C (rgF C x)) 0 6).isNone, τ) := by
      refine lpE (fun m j => f9_35 m 96 15 (nI j) τ) 6 (wrG C (rgF C x)) (fun o => some (bo o.isNone, τ)) (fun j hj hc m r hn => ?_) (fun j hj hc m => ?_) (fun m => ?_) 6 1100 0 rfl (by omega)
      · show f9_35 (m + 1) _ _ _ _ = _
        rw [e1 m j hj, if_pos hc]
        exact hn
      · show f9_35 (m + 1) _ _ _ _ = _
        rw [e1 m j hj, if_neg (by rw [hc]; simp)]
        rfl
      · show f9_35 (m + 1) _ _ _ _ = _
        rw [f9_35, if_pos (show (6 : Int32) ≤ nI 6 by decide)]
        rfl
    exact hl
  · rw [t3 p hp q hq, hl]
    exact hf.2 p hp q hq hl
end CLASS
