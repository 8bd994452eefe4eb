/-! HOURS THAT AREN'T SURE: counts; the class's answers fits, fitAt, heirBy, look, lookLeaves -/
/-- a loop over memories that may end early -/
theorem lpX {γ : Type} (G : Nat → Nat → xM → Option γ) (N : Nat) (I : Nat → xM → Prop) (Q : Option γ → Prop) (hs : ∀ j, j < N → ∀ n τ, I j τ → (∃ τ', I (j + 1) τ' ∧ G (n + 1) j τ = G n (j + 1) τ') ∨ Q (G (n + 1) j τ)) (he : ∀ n τ, I N τ → Q (G (n + 1) N τ)) : ∀ (m n j : Nat) (τ : xM), j + m = N → m + 1 ≤ n → I j τ → Q (G n j τ) := by
  intro m
  induction m with
  | zero =>
    intro n j τ hj hn hI
    obtain ⟨n, rfl⟩ : ∃ k, n = k + 1 := ⟨n - 1, by omega⟩
    rw [show j = N by omega] at hI ⊢
    exact he n τ hI
  | succ m ih =>
    intro n j τ hj hn hI
    obtain ⟨n, rfl⟩ : ∃ k, n = k + 1 := ⟨n - 1, by omega⟩
    rcases hs j (by omega) n τ hI with ⟨τ', h1, h2⟩ | h
    · rw [h2]
      exact ih n (j + 1) τ' (by omega) (by omega) h1
    · exact h
theorem fs_at {c : Nat → Bool} : ∀ (m j i : Nat), j ≤ i → i < j + m → c i = true → (∀ k, j ≤ k → k < i → c k = false) → fs c j m = some i := by
  intro m
  induction m with
  | zero => intro j i h1 h2; omega
  | succ m ih =>
    intro j i h1 h2 hc hno
    unfold fs
    by_cases e : i = j
    · rw [← e, hc]
      rfl
    · rw [hno j (by omega) (by omega)]
      exact ih (j + 1) i (by omega) (by omega) hc (fun k h3 h4 => hno k (by omega) h4)
theorem fs_no {c : Nat → Bool} : ∀ (m j : Nat), (∀ k, j ≤ k → k < j + m → c k = false) → fs c j m = none := by
  intro m
  induction m with
  | zero => intro j _; rfl
  | succ m ih =>
    intro j hno
    unfold fs
    rw [hno j (by omega) (by omega)]
    exact ih (j + 1) (fun k h3 h4 => hno k (by omega) (by omega))
def nth (c : Nat → Bool) (i : Nat) (x : Nat) : Bool := c x && decide (cnF c x = i)
/-- the i-th that fits -/
def fnd (C : Cty) (i : Nat) : Option Nat := fs (nth (fok C) i) 0 (cds C)
def hby (C : Cty) (p q : Nat) (x : Nat) : Bool := fok C x && decide (heF C (rgF C x) q = some p)
def prt (C : Cty) (k h : Nat) (x : Nat) : Bool := fok C x && decide (dg C x k = h)
def mxF (f : Nat → Nat) : Nat → Nat
  | 0 => 0
  | j + 1 => max (mxF f j) (f j)
theorem mxF_le {f : Nat → Nat} {b : Nat} : ∀ j, (∀ i, i < j → f i ≤ b) → mxF f j ≤ b := by
  intro j
  induction j with
  | zero => intro _; show 0 ≤ b; omega
  | succ j ih =>
    intro h
    have h1 := ih (fun i hi => h i (by omega))
    have h2 := h j (by omega)
    rw [mxF]
    omega
/-- how many fit at most by the likeliest hour -/
def lef (C : Cty) (k : Nat) : Nat := mxF (fun h => cnF (prt C k h) (cds C)) 7
theorem lef_le {C : Cty} (k : Nat) : lef C k ≤ cds C := mxF_le 7 (fun i _ => cnF_le _ _)
/-- the first with the least -/
def miF (v : Nat → Nat) : Nat → Option Nat
  | 0 => none
  | j + 1 => match miF v j with
    | none => some j
    | some b => if v j < v b then some j else some b
theorem miF_lt {v : Nat → Nat} : ∀ j k, miF v j = some k → k < j := by
  intro j
  induction j with
  | zero => intro k h; cases h
  | succ j ih =>
    intro k h
    rw [miF] at h
    cases e : miF v j with
    | none =>
      rw [e] at h
      have := Option.some.inj h
      omega
    | some b =>
      rw [e] at h
      have := ih b e
      simp only at h
      split at h
      · have := Option.some.inj h; omega
      · have := Option.some.inj h; omega
def lok (C : Cty) : Option Nat := if cnF (fok C) (cds C) = 0 then none else miF (lef C) (nHe C)
def aFit (C : Cty) : Int32 × Int32 := if 0 < pe C then (nI (cnF (fok C) (cds C)), 0) else (-1, 1)
def okF (C : Cty) (i k : Int32) : Bool := decide (0 < pe C) && (!decide (i < 0) && (!decide (k < 0) && !decide (nI (nHe C) ≤ k)))
def aFat (C : Cty) (i k : Int32) : Int32 × Int32 := if okF C i k then (match fnd C (pN i) with
  | some x => (nI (lw C (pN k) + dg C x (pN k)), 0)
  | none => (-1, 1)) else (-1, 1)
def aHby (C : Cty) (p q : Int32) : Int32 × Int32 := if two (pe C) p q then (nI (cnF (hby C (pN p) (pN q)) (cds C)), 0) else (-1, 1)
def aLok (C : Cty) : Int32 × Int32 := if 0 < pe C then (ob (lok C), 0) else (-1, 1)
def aLol (C : Cty) : Int32 × Int32 := if 0 < pe C then (match lok C with
  | some k => nI (lef C k)
  | none => -2, 0) else (-1, 1)
section CLASS
variable {σ : xM} {C : Cty} {s : Sta}
/-- what stays while codes are gone through -/
def fiI (σ : xM) (C : Cty) (τ : xM) : Prop := Upd Pfi σ τ ∧ fo τ C
theorem fiI_ok (hS : Sh σ) (hC : cC σ 15 C) {τ : xM} (h : fiI σ C τ) : Sh τ ∧ cC τ 15 C := ⟨h.1.sh hS, cC_upd h.1 Pfi_15 hC⟩
/-- countAll -/
theorem f10N (hS : Sh σ) (hC : cC σ 15 C) (hO : OkC C) : ∃ τ, f10 96 15 σ = some (nI (cnF (fok C) (cds C)), τ) ∧ Upd Pfi σ τ := by
  obtain ⟨τ0, t1, t2, t3⟩ := f7N hS hC hO
  have hcb := cds_b hO
  unfold f10
  simp only [acW hS, Option.bind_some, t1]
  refine lpI (fun m j τ => f10_9 m 96 15 (nI (cnF (fok C) j)) (nI j) τ) (cds C) (fun _ τ => fiI σ C τ) (fun o => ∃ τ, o = some (nI (cnF (fok C) (cds C)), τ) ∧ Upd Pfi σ τ) (fun j hj m τ hI => ?_) (fun m τ hI => ?_) (cds C) 1100 0 τ0 (by omega) (by omega) ⟨t2, t3⟩
  · obtain ⟨hS', hC'⟩ := fiI_ok hS hC hI
    obtain ⟨υ, v1, v2, v3, -⟩ := f9N hS' hC' hO hI.2 (show j < 2 ^ 31 by omega)
    refine ⟨υ, ⟨hI.1.trans (fi_100 v2), v3⟩, ?_⟩
    show f10_9 (m + 1) _ _ _ _ _ = f10_9 m _ _ _ _ _
    rw [f10_9]
    unfold f10_29
    simp only [acW hS', Option.bind_some, hI.2.1.1, v1, bo_0, nI_1, cnF]
    rw [if_neg (nI_ge hj (by omega))]
    cases fok C j <;> simp
  · obtain ⟨hS', hC'⟩ := fiI_ok hS hC hI
    refine ⟨τ, ?_, hI.1⟩
    show f10_9 (m + 1) _ _ _ _ _ = _
    rw [f10_9]
    simp only [acW hS', Option.bind_some, hI.2.1.1]
    rw [if_pos (nI_le (by omega) (by omega))]
    rfl
/-- find -/
theorem f11N (hS : Sh σ) (hC : cC σ 15 C) (hO : OkC C) {i : Nat} (hi : i < 2 ^ 31) : ∃ τ, f11 96 15 (nI i) σ = some (match fnd C i with
    | some x => nI x
    | none => -1, τ) ∧ Upd Pfi σ τ ∧ fo τ C := by
  obtain ⟨τ0, t1, t2, t3⟩ := f7N hS hC hO
  have hcb := cds_b hO
  unfold f11
  simp only [acW hS, Option.bind_some, t1]
  refine lpX (fun m j τ => f11_10 m 96 15 (nI (i - cnF (fok C) j)) (nI j) τ) (cds C) (fun j τ => fiI σ C τ ∧ cnF (fok C) j ≤ i ∧ ∀ x, x < j → nth (fok C) i x = false) (fun o => ∃ τ, o = some (match fnd C i with
    | some x => nI x
    | none => -1, τ) ∧ Upd Pfi σ τ ∧ fo τ C) (fun j hj m τ hI => ?_) (fun m τ hI => ?_) (cds C) 1100 0 τ0 (by omega) (by omega) ⟨⟨t2, t3⟩, by show 0 ≤ i; omega, fun x hx => by omega⟩
  · obtain ⟨hI, hle, hno⟩ := hI
    obtain ⟨hS', hC'⟩ := fiI_ok hS hC hI
    obtain ⟨υ, v1, v2, v3, -⟩ := f9N hS' hC' hO hI.2 (show j < 2 ^ 31 by omega)
    have hv : fiI σ C υ := ⟨hI.1.trans (fi_100 v2), v3⟩
    have hst : f11_10 (m + 1) 96 15 (nI (i - cnF (fok C) j)) (nI j) τ = if fok C j = false then f11_10 m 96 15 (nI (i - cnF (fok C) j)) (nI (j + 1)) υ else if i - cnF (fok C) j = 0 then some (nI j, υ) else f11_10 m 96 15 (nI (i - cnF (fok C) j) + (-1)) (nI (j + 1)) υ := by
      rw [f11_10]
      unfold f11_39
      simp only [acW hS', Option.bind_some, hI.2.1.1, v1, bo_0, nI_1, nI_0' _ (show i - cnF (fok C) j < 2 ^ 31 by omega)]
      rw [if_neg (nI_ge hj (by omega))]
    show (∃ τ', _ ∧ f11_10 (m + 1) _ _ _ _ _ = f11_10 m _ _ _ _ _) ∨ ∃ τ', f11_10 (m + 1) _ _ _ _ _ = _ ∧ _
    rw [hst]
    cases e : fok C j
    · refine Or.inl ⟨υ, ⟨hv, by rw [cnF, e]; exact hle, fun x hx => ?_⟩, by rw [if_pos rfl, cnF, e]; rfl⟩
      by_cases ex : x = j
      · rw [ex]
        unfold nth
        rw [e]
        rfl
      · exact hno x (by omega)
    · by_cases e2 : i - cnF (fok C) j = 0
      · refine Or.inr ⟨υ, ?_, hv.1, hv.2⟩
        have : fnd C i = some j := fs_at _ _ _ (by omega) (by omega) (by
          unfold nth
          rw [e, Bool.true_and, decide_eq_true_eq]
          omega) (fun k _ hk => hno k hk)
        rw [if_neg (by simp), if_pos e2, this]
      · refine Or.inl ⟨υ, ⟨hv, by rw [cnF, e, if_pos rfl]; omega, fun x hx => ?_⟩, ?_⟩
        · by_cases ex : x = j
          · rw [ex]
            unfold nth
            rw [Bool.and_eq_false_iff, decide_eq_false_iff_not]
            exact Or.inr (by omega)
          · exact hno x (by omega)
        · rw [if_neg (by simp), if_neg e2, cnF, e, if_pos rfl]
          obtain ⟨z, hz⟩ : ∃ z, i - cnF (fok C) j = z + 1 := ⟨i - cnF (fok C) j - 1, by omega⟩
          rw [hz, pk_m1, show i - (cnF (fok C) j + 1) = z by omega]
  · obtain ⟨hI, hle, hno⟩ := hI
    obtain ⟨hS', hC'⟩ := fiI_ok hS hC hI
    refine ⟨τ, ?_, hI.1, hI.2⟩
    have : fnd C i = none := fs_no _ _ (fun k _ hk => hno k (by omega))
    rw [this]
    show f11_10 (m + 1) _ _ _ _ _ = _
    rw [f11_10]
    simp only [acW hS', Option.bind_some, hI.2.1.1]
    rw [if_pos (nI_le (by omega) (by omega))]
    rfl
/-- countHeir -/
theorem f12N (hS : Sh σ) (hC : cC σ 15 C) (hO : OkC C) {p q : Nat} (hp : p < 6) (hq : q < 6) : ∃ τ, f12 96 15 (nI p) (nI q) σ = some (nI (cnF (hby C p q) (cds C)), τ) ∧ Upd Pfi σ τ := by
  obtain ⟨τ0, t1, t2, t3⟩ := f7N hS hC hO
  have hcb := cds_b hO
  have h6 := hO.1
  have hl63 : 2 ^ pe C - 1 < 64 := by
    have h1 : 2 ^ pe C ≤ 2 ^ 6 := Nat.pow_le_pow_right (by omega) h6
    omega
  unfold f12
  simp only [acW hS, Option.bind_some, t1]
  refine lpI (fun m j τ => f12_11 m 96 15 (nI p) (nI q) (nI (cnF (hby C p q) j)) (nI j) τ) (cds C) (fun _ τ => fiI σ C τ) (fun o => ∃ τ, o = some (nI (cnF (hby C p q) (cds C)), τ) ∧ Upd Pfi σ τ) (fun j hj m τ hI => ?_) (fun m τ hI => ?_) (cds C) 1100 0 τ0 (by omega) (by omega) ⟨t2, t3⟩
  · obtain ⟨hS', hC'⟩ := fiI_ok hS hC hI
    obtain ⟨υ, v1, v2, v3, v4⟩ := f9N hS' hC' hO hI.2 (show j < 2 ^ 31 by omega)
    have hv : fiI σ C υ := ⟨hI.1.trans (fi_100 v2), v3⟩
    obtain ⟨hS2, hC2⟩ := fiI_ok hS hC hv
    refine ⟨υ, hv, ?_⟩
    show f12_11 (m + 1) _ _ _ _ _ _ _ = f12_11 m _ _ _ _ _ _ _
    have h58 := f58N (r := 100) (g := rgF C j) (sh_a hS2 (by decide) rfl rfl) v4 (rgF_b hO j) hl63 hq
    have he : (ob (heF C (rgF C j) q) = nI p) = (heF C (rgF C j) q = some p) := by
      have := ob_eq (a := heF C (rgF C j) q) (b := some p) (fun k ek => ((heN_congr (j := 6) (fun i _ => ⟨rfl, rfl⟩)).2 k ek).1) (fun k ek => by cases ek; exact hp)
      exact propext this
    rw [f12_11]
    unfold f12_49
    rw [cnF]
    simp only [acW hS', Option.bind_some, hI.2.1.1, v1, bo_0, nI_1, acW hS2, acC hS2, f3, hC2.1.2.2.1, evN _ h6]
    rw [if_neg (nI_ge hj (by omega)), h58, Option.bind_some]
    rw [show heN (fun p => rgF C j p q) (fun p => decide (¬ p = q) && tb (2 ^ pe C - 1) p) 6 = heF C (rgF C j) q from rfl]
    unfold hby
    simp only [he]
    cases fok C j
    · simp
    · by_cases e2 : heF C (rgF C j) q = some p
      · simp [e2]
      · simp [e2]
  · obtain ⟨hS', hC'⟩ := fiI_ok hS hC hI
    refine ⟨τ, ?_, hI.1⟩
    show f12_11 (m + 1) _ _ _ _ _ _ _ = _
    rw [f12_11]
    simp only [acW hS', Option.bind_some, hI.2.1.1]
    rw [if_pos (nI_le (by omega) (by omega))]
    rfl
/-- the tally after the first j codes -/
def tly (τ : xM) (C : Cty) (j : Nat) : Prop := ∀ k, k < nHe C → ∀ h, h < 7 → mI τ 101 (k * 7 + h) = nI (cnF (prt C k h) j)
def P101 : Nat → Nat → Bool := fun a _ => Nat.beq a 101
theorem fi_101 {τ : xM} (h : Upd P101 σ τ) : Upd Pfi σ τ := h.mono (fun a k hq => by
  have h100 := List.any_eq_false.mp hq 101 (by simp)
  exact beqF (fun e => by rw [e] at h100; simp at h100))
theorem P101_lo : ∀ a k, 96 ≤ a → a ≤ 100 → P101 a k = false := fun a k h1 h2 => beqF (by omega)
/-- countByHours, one code that fits -/
theorem f14_48N (K : Nat → Nat → Int32 → Int32 → xM → Option (Int32 × xM)) (hS : Sh σ) (hC : cC σ 15 C) (hO : OkC C) (hf : fo σ C) {x : Nat} (hx : x < 2 ^ 31) (ht : tly σ C x) (hok : fok C x = true) (c : Int32) : ∃ τ, f14_48 K 1100 96 15 c (nI x) 0 σ = K 96 15 c (nI (x + 1)) τ ∧ Upd P101 σ τ ∧ fo τ C ∧ tly τ C (x + 1) := by
  have hn := hO.2.2.2.2.2.2.2.2.2.2.2.1
  refine lpI (fun m j τ => f14_48 K m 96 15 c (nI x) (nI j) τ) (nHe C) (fun j τ => Upd P101 σ τ ∧ ∀ k, k < nHe C → ∀ h, h < 7 → mI τ 101 (k * 7 + h) = nI (cnF (prt C k h) (if k < j then x + 1 else x))) (fun o => ∃ τ, o = K 96 15 c (nI (x + 1)) τ ∧ Upd P101 σ τ ∧ fo τ C ∧ tly τ C (x + 1)) (fun j hj m τ hI => ?_) (fun m τ hI => ?_) (nHe C) 1100 0 σ (by omega) (by omega) ⟨Upd.refl, fun k hk h hh => by rw [if_neg (by omega)]; exact ht k hk h hh⟩
  · obtain ⟨hu, hr⟩ := hI
    have hS' := hu.sh hS
    have hC' : cC τ 15 C := cC_upd (fi_101 hu) Pfi_15 hC
    have hj3 : j < 3 := by omega
    have hfA := foA_upd hu (fun a k h1 h2 => P101_lo a k h1 (by omega)) hf.1
    have hf8 := f8N (k := j) hS' hO hfA hx hj3
    have hd := dg_lt hO x j
    have hsb := sp_b hO j
    have hidx : nI j * 7 + nI (lw C j + dg C x j) - nI (lw C j) = nI (j * 7 + dg C x j) := by
      rw [show (7 : Int32) = nI 7 from rfl, pk_mul, nI_add, pk_sub (by omega)]
      congr 1
      omega
    have hold : mI τ 101 (j * 7 + dg C x j) = nI (cnF (prt C j (dg C x j)) x) := by
      rw [hr j hj _ (by omega), if_neg (by omega)]
    refine ⟨wI τ 101 (j * 7 + dg C x j) (nI (cnF (prt C j (dg C x j)) x + 1)), ⟨hu.wI rfl, fun k hk h hh => ?_⟩, ?_⟩
    · rw [mI_w]
      have hstep : ∀ h', cnF (prt C j h') (x + 1) = if dg C x j = h' then cnF (prt C j h') x + 1 else cnF (prt C j h') x := fun h' => by
        rw [cnF]
        unfold prt
        rw [hok, Bool.true_and]
        by_cases e : dg C x j = h' <;> simp [e]
      by_cases e : k = j
      · subst e
        rw [if_pos (show k < k + 1 by omega), hstep h]
        by_cases e2 : dg C x k = h
        · rw [if_pos e2, if_pos ⟨rfl, by omega⟩, e2]
        · rw [if_neg e2, if_neg (by omega), hr k hk h hh, if_neg (by omega)]
      · rw [if_neg (by omega), hr k hk h hh]
        by_cases e2 : k < j
        · rw [if_pos e2, if_pos (by omega)]
        · rw [if_neg e2, if_neg (by omega)]
    · show f14_48 K (m + 1) _ _ _ _ _ _ = f14_48 K m _ _ _ _ _ _
      rw [f14_48]
      simp only [acC hS', acW hS', Option.bind_some, hC'.1.2.2.2.2.2.1, hf8, hj3, (hfA.2 j hj3).1, hidx, show j * 7 + dg C x j < 21 by omega, hold, nI_1]
      rw [if_neg (nI_ge hj (by omega))]
  · obtain ⟨hu, hr⟩ := hI
    have hS' := hu.sh hS
    have hC' : cC τ 15 C := cC_upd (fi_101 hu) Pfi_15 hC
    refine ⟨τ, ?_, hu, fo_upd hu P101_lo hf, fun k hk h hh => by rw [hr k hk h hh, if_pos hk]⟩
    show f14_48 K (m + 1) _ _ _ _ _ _ = _
    rw [f14_48]
    simp only [acC hS', Option.bind_some, hC'.1.2.2.2.2.2.1]
    rw [if_pos (nI_le (by omega) (by omega))]
    unfold f14_93
    rw [nI_1]
/-- countByHours -/
theorem f14N (hS : Sh σ) (hC : cC σ 15 C) (hO : OkC C) (hf : fo σ C) : ∃ τ, f14 96 15 σ = some (nI (cnF (fok C) (cds C)), τ) ∧ Upd Pfi σ τ ∧ fo τ C ∧ tly τ C (cds C) := by
  have hcb := cds_b hO
  have hn := hO.2.2.2.2.2.2.2.2.2.2.2.1
  have A1 : ∃ τ, f14 96 15 σ = f14_23 96 15 0 τ ∧ Upd P101 σ τ ∧ ∀ k, k < 21 → mI τ 101 k = 0 := by
    unfold f14
    refine lpI (fun m j τ => f14_4 m 96 15 0 (nI j) τ) 21 (fun j τ => Upd P101 σ τ ∧ ∀ k, k < j → mI τ 101 k = 0) (fun o => ∃ τ, o = f14_23 96 15 0 τ ∧ Upd P101 σ τ ∧ ∀ k, k < 21 → mI τ 101 k = 0) (fun j hj m τ hI => ?_) (fun m τ hI => ?_) 21 1100 0 σ rfl (by omega) ⟨Upd.refl, fun k hk => by omega⟩
    · obtain ⟨hu, hz⟩ := hI
      refine ⟨wI τ 101 j 0, ⟨hu.wI rfl, fun k hk => ?_⟩, ?_⟩
      · rw [mI_w]
        by_cases e : k = j
        · rw [if_pos ⟨rfl, e⟩]
        · rw [if_neg (fun h => e h.2)]
          exact hz k (by omega)
      · show f14_4 (m + 1) _ _ _ _ _ = f14_4 m _ _ _ _ _
        rw [f14_4, if_neg (show ¬ (21 : Int32) ≤ nI j from nI_ge (b := 21) hj (by omega))]
        simp only [acW (hu.sh hS), Option.bind_some, hj, nI_1]
    · obtain ⟨hu, hz⟩ := hI
      refine ⟨τ, ?_, hu, hz⟩
      show f14_4 (m + 1) _ _ _ _ _ = _
      rw [f14_4, if_pos (show (21 : Int32) ≤ nI 21 by decide)]
  obtain ⟨τ1, a1, a2, a3⟩ := A1
  have hf1 := fo_upd a2 P101_lo hf
  rw [a1]
  unfold f14_23
  refine lpI (fun m j τ => f14_25 m 96 15 (nI (cnF (fok C) j)) (nI j) τ) (cds C) (fun j τ => fiI σ C τ ∧ tly τ C j) (fun o => ∃ τ, o = some (nI (cnF (fok C) (cds C)), τ) ∧ Upd Pfi σ τ ∧ fo τ C ∧ tly τ C (cds C)) (fun j hj m τ hI => ?_) (fun m τ hI => ?_) (cds C) 1100 0 τ1 (by omega) (by omega) ⟨⟨fi_101 a2, hf1⟩, fun k hk h hh => a3 _ (by omega)⟩
  · obtain ⟨hI, ht⟩ := hI
    obtain ⟨hS', hC'⟩ := fiI_ok hS hC hI
    obtain ⟨υ, v1, v2, v3, -⟩ := f9N hS' hC' hO hI.2 (show j < 2 ^ 31 by omega)
    have hv : fiI σ C υ := ⟨hI.1.trans (fi_100 v2), v3⟩
    obtain ⟨hS2, hC2⟩ := fiI_ok hS hC hv
    have ht2 : tly υ C j := fun k hk h hh => by
      rw [v2.2.1 101 _ rfl]
      exact ht k hk h hh
    show ∃ τ', _ ∧ f14_25 (m + 1) _ _ _ _ _ = f14_25 m _ _ _ _ _
    rw [f14_25]
    unfold f14_93
    rw [cnF]
    simp only [acW hS', Option.bind_some, hI.2.1.1, v1, bo_0, nI_1]
    rw [if_neg (nI_ge hj (by omega))]
    cases e : fok C j
    · rw [if_pos rfl]
      refine ⟨υ, ⟨hv, fun k hk h hh => ?_⟩, rfl⟩
      rw [ht2 k hk h hh, cnF]
      unfold prt
      rw [e]
      rfl
    · obtain ⟨ω, w1, w2, w3, w4⟩ := f14_48N (f14_25 m) hS2 hC2 hO hv.2 (show j < 2 ^ 31 by omega) ht2 e (nI (cnF (fok C) j + 1))
      rw [if_neg (by simp), w1]
      exact ⟨ω, ⟨⟨hv.1.trans (fi_101 w2), w3⟩, w4⟩, rfl⟩
  · obtain ⟨hI, ht⟩ := hI
    obtain ⟨hS', hC'⟩ := fiI_ok hS hC hI
    refine ⟨τ, ?_, hI.1, hI.2, ht⟩
    show f14_25 (m + 1) _ _ _ _ _ = _
    rw [f14_25]
    simp only [acW hS', Option.bind_some, hI.2.1.1]
    rw [if_pos (nI_le (by omega) (by omega))]
    rfl
theorem maxN {a b : Nat} (ha : a < 2 ^ 31) (hb : b < 2 ^ 31) : (if nI b > nI a then nI b else nI a) = nI (max a b) := by
  by_cases e : a < b
  · rw [if_pos (show nI b > nI a from nI_lt e hb)]
    congr 1
    omega
  · rw [if_neg (show ¬ nI a < nI b from nI_nlt (by omega) ha)]
    congr 1
    omega
/-- leftAtMost -/
theorem f15N (hS : Sh σ) (hO : OkC C) (ht : tly σ C (cds C)) {k : Nat} (hk : k < nHe C) : f15 96 (nI k) σ = some (nI (lef C k), σ) := by
  have hcb := cds_b hO
  have hn := hO.2.2.2.2.2.2.2.2.2.2.2.1
  unfold f15
  refine lp (fun m j => f15_4 m 96 (nI k) (nI (mxF (fun h => cnF (prt C k h) (cds C)) j)) (nI j) σ) 7 (fun j hj m r hn' => ?_) (fun m => ?_) 7 1100 0 rfl (by omega)
  · have hn' : f15_4 m 96 (nI k) (nI (mxF (fun h => cnF (prt C k h) (cds C)) (j + 1))) (nI (j + 1)) σ = r := hn'
    have b1 : mxF (fun h => cnF (prt C k h) (cds C)) j ≤ cds C := mxF_le j (fun i _ => cnF_le _ _)
    have b2 := cnF_le (prt C k j) (cds C)
    show f15_4 (m + 1) _ _ _ _ _ = _
    rw [f15_4, if_neg (show ¬ (7 : Int32) ≤ nI j from nI_ge (b := 7) hj (by omega))]
    rw [mxF] at hn'
    simp only [acW hS, Option.bind_some, show (7 : Int32) = nI 7 from rfl, pk_mul, nI_add, show k * 7 + j < 21 by omega, ht k hk j hj, nI_1]
    rw [maxN (by omega) (by omega)]
    exact hn'
  · show f15_4 (m + 1) _ _ _ _ _ = _
    rw [f15_4, if_pos (show (7 : Int32) ≤ nI 7 by decide)]
    rfl
/-- whichToLookAt -/
theorem f13N (hS : Sh σ) (hC : cC σ 15 C) (hO : OkC C) : ∃ τ, f13 96 15 σ = some (ob (lok C), τ) ∧ Upd Pfi σ τ ∧ tly τ C (cds C) := by
  have hcb := cds_b hO
  have hn := hO.2.2.2.2.2.2.2.2.2.2.2.1
  obtain ⟨τ0, t1, t2, t3⟩ := f7N hS hC hO
  obtain ⟨τ1, a1, a2, a3, a4⟩ := f14N (t2.sh hS) (cC_upd t2 Pfi_15 hC) hO t3
  have u1 := t2.trans a2
  have hS1 := u1.sh hS
  have hC1 : cC τ1 15 C := cC_upd u1 Pfi_15 hC
  have hcl := cnF_le (fok C) (cds C)
  unfold f13 lok
  simp only [acW hS, Option.bind_some, t1, acW (t2.sh hS), a1, nI_0' _ (show cnF (fok C) (cds C) < 2 ^ 31 by omega), acW hS1, a3.1.1, nI_1]
  by_cases e : cnF (fok C) (cds C) = 0
  · rw [if_pos e, if_pos e]
    exact ⟨τ1, rfl, u1, a4⟩
  · rw [if_neg e, if_neg e]
    refine ⟨τ1, ?_, u1, a4⟩
    refine lp (fun m j => f13_29 m 96 15 (ob (miF (lef C) j)) (nI (match miF (lef C) j with
      | none => cds C + 1
      | some b => lef C b)) (nI j) τ1) (nHe C) (fun j hj m r hn' => ?_) (fun m => ?_) (nHe C) 1100 0 (by omega) (by omega)
    · have hn' : f13_29 m 96 15 (ob (miF (lef C) (j + 1))) (nI (match miF (lef C) (j + 1) with
        | none => cds C + 1
        | some b => lef C b)) (nI (j + 1)) τ1 = r := hn'
      have hlj := lef_le (C := C) j
      show f13_29 (m + 1) _ _ _ _ _ _ = _
      rw [f13_29]
      unfold f13_58
      simp only [acC hS1, acW hS1, Option.bind_some, hC1.1.2.2.2.2.2.1, f15N hS1 hO a4 hj, nI_1]
      rw [if_neg (nI_ge hj (by omega))]
      rw [miF] at hn'
      cases e3 : miF (lef C) j with
      | none =>
        rw [e3] at hn'
        simp only at hn' ⊢
        rw [if_neg (nI_ge (by omega) (by omega))]
        exact hn'
      | some b =>
        have hlb := lef_le (C := C) b
        rw [e3] at hn'
        simp only at hn' ⊢
        by_cases e4 : lef C j < lef C b
        · rw [if_pos e4] at hn'
          rw [if_neg (nI_ge e4 (by omega))]
          exact hn'
        · rw [if_neg e4] at hn'
          rw [if_pos (nI_le (by omega) (by omega))]
          exact hn'
    · show f13_29 (m + 1) _ _ _ _ _ _ = _
      rw [f13_29]
      simp only [acC hS1, Option.bind_some, hC1.1.2.2.2.2.2.1]
      rw [if_pos (nI_le (by omega) (by omega))]
      rfl
end CLASS
