/-! HOURS THAT AREN'T SURE: the reference, all codes -/
theorem cnF_gt {c : Nat → Bool} {x : Nat} (hx : c x = true) : ∀ j, x < j → cnF c x + 1 ≤ cnF c j := by
  intro j
  induction j with
  | zero => intro h; omega
  | succ j ih =>
    intro h
    rw [cnF]
    by_cases e : x = j
    · subst e
      rw [hx, if_pos rfl]
      exact Nat.le_refl _
    · have := ih (by omega)
      split <;> omega
/-- tallies of the reference after the first j codes -/
def tlM (τ : xM) (C : Cty) (j : Nat) : Prop := ∀ k, k < nHe C → ∀ h, h < 7 → mI τ 113 (7 * k + h) = nI (cnF (prt C k h) j)
def hrM (τ : xM) (C : Cty) (j : Nat) : Prop := ∀ p, p < 6 → ∀ q, q < pe C → mI τ 114 (6 * p + q) = nI (cnF (hby C p q) j)
def P113 : Nat → Nat → Bool := fun a _ => Nat.beq a 113
def P114 : Nat → Nat → Bool := fun a _ => Nat.beq a 114
theorem lo113 : lo P113 := fun a k ha => beqF (show a ≠ 113 by omega)
theorem lo114 : lo P114 := fun a k ha => beqF (show a ≠ 114 by omega)
theorem ft_113 {σ τ : xM} (h : Upd P113 σ τ) : Upd Pft σ τ := h.mono (fun a k hq => by
  unfold Pft at hq
  rw [Bool.or_eq_false_iff] at hq
  have := List.any_eq_false.mp hq.1 113 (by simp)
  exact beqF (fun e => by rw [e] at this; simp at this))
theorem ft_114 {σ τ : xM} (h : Upd P114 σ τ) : Upd Pft σ τ := h.mono (fun a k hq => by
  unfold Pft at hq
  rw [Bool.or_eq_false_iff] at hq
  have := List.any_eq_false.mp hq.1 114 (by simp)
  exact beqF (fun e => by rw [e] at this; simp at this))
section REF
variable {σ : xM} {c : Nat} {s : Sta} {C : Cty}
/-- the hours of a code that fits are counted -/
theorem f240_269N (K : Nat → Int32 → Int32 → Int32 → Int32 → Int32 → xM → Option (Int32 × xM)) (hT : hasT σ c) (hM : mC σ c C) (hO : OkC C) {x : Nat} (hok : fok C x = true) (hho : ∀ k, k < nHe C → mI σ 112 k = nI (dg C x k)) (ht : tlM σ C x) (l1 l2 l3 l4 l5 : Int32) : ∃ τ, f240_269 K 1100 102 l1 l2 l3 l4 l5 0 σ = f240_309 K 102 l1 l2 l3 l4 l5 τ ∧ Upd P113 σ τ ∧ tlM τ C (x + 1) := by
  have hn := hO.2.2.2.2.2.2.2.2.2.2.2.1
  refine lpI (fun m j τ => f240_269 K m 102 l1 l2 l3 l4 l5 (nI j) τ) (nHe C) (fun j τ => Upd P113 σ τ ∧ ∀ k, k < nHe C → ∀ h, h < 7 → mI τ 113 (7 * k + h) = nI (cnF (prt C k h) (if k < j then x + 1 else x))) (fun o => ∃ τ, o = f240_309 K 102 l1 l2 l3 l4 l5 τ ∧ Upd P113 σ τ ∧ tlM τ C (x + 1)) (fun j hj m τ hI => ?_) (fun m τ hI => ?_) (nHe C) 1100 0 σ (by omega) (by omega) ⟨Upd.refl, fun k hk h hh => by rw [if_neg (by omega)]; exact ht k hk h hh⟩
  · obtain ⟨hu, hr⟩ := hI
    have hT' := hu.hasT hT
    have hM' := mC_lo hu lo113 hT.2.1.1 hM
    have hj3 : j < 3 := by omega
    have hd := dg_lt hO x j
    have hsb := sp_b hO j
    have h112 : mI τ 112 j = nI (dg C x j) := (hu.2.1 112 j rfl).trans (hho j hj)
    have hold : mI τ 113 (7 * j + dg C x j) = nI (cnF (prt C j (dg C x j)) x) := by
      rw [hr j hj _ (by omega), if_neg (by omega)]
    refine ⟨wI τ 113 (7 * j + dg C x j) (nI (cnF (prt C j (dg C x j)) x + 1)), ⟨hu.wI rfl, fun k hk h hh => ?_⟩, ?_⟩
    · rw [mI_w]
      have hstep : ∀ h', cnF (prt C j h') (x + 1) = if dg C x j = h' then cnF (prt C j h') x + 1 else cnF (prt C j h') x := fun h' => by
        rw [cnF]
        unfold prt
        rw [hok, Bool.true_and]
        by_cases e : dg C x j = h' <;> simp [e]
      by_cases e : k = j
      · subst e
        rw [if_pos (show k < k + 1 by omega), hstep h]
        by_cases e2 : dg C x k = h
        · rw [if_pos e2, if_pos ⟨rfl, by omega⟩, e2]
        · rw [if_neg e2, if_neg (by omega), hr k hk h hh, if_neg (by omega)]
      · rw [if_neg (by omega), hr k hk h hh]
        by_cases e2 : k < j
        · rw [if_pos e2, if_pos (by omega)]
        · rw [if_neg e2, if_neg (by omega)]
    · show f240_269 K (m + 1) _ _ _ _ _ _ _ _ = f240_269 K m _ _ _ _ _ _ _ _
      rw [f240_269]
      simp only [acM hT'.1, acG hT', acT0 hT'.2.1, Option.bind_some, hM'.1.2.2.2.2.2.1, hj3, h112, show (7 : Int32) = nI 7 from rfl, pk_mul, nI_add, show 7 * j + dg C x j < 21 by omega, hold, nI_1]
      rw [if_neg (nI_ge hj (by omega))]
  · obtain ⟨hu, hr⟩ := hI
    have hT' := hu.hasT hT
    have hM' := mC_lo hu lo113 hT.2.1.1 hM
    refine ⟨τ, ?_, hu, fun k hk h hh => by rw [hr k hk h hh, if_pos hk]⟩
    show f240_269 K (m + 1) _ _ _ _ _ _ _ _ = _
    rw [f240_269]
    simp only [acG hT', acT0 hT'.2.1, Option.bind_some, hM'.1.2.2.2.2.2.1]
    rw [if_pos (nI_le (by omega) (by omega))]
/-- the heirs of a code that fits are counted -/
theorem f240_312N (K : Nat → Int32 → Int32 → Int32 → Int32 → Int32 → xM → Option (Int32 × xM)) (hT : hasT σ c) (hM : mC σ c C) (hO : OkC C) {x : Nat} (hok : fok C x = true) (hx : xg σ C (rgF C x)) (ht : hrM σ C x) (l1 l2 l3 l4 : Int32) : ∃ τ, f240_309 K 102 l1 l2 l3 l4 (nI x) σ = K 102 l1 l2 l3 l4 (nI (x + 1)) τ ∧ Upd P114 σ τ ∧ hrM τ C (x + 1) := by
  have h6 := hO.1
  unfold f240_309
  refine lpI (fun m j τ => f240_312 K m 102 l1 l2 l3 l4 (nI x) (nI j) τ) (pe C) (fun j τ => Upd P114 σ τ ∧ ∀ p, p < 6 → ∀ q, q < pe C → mI τ 114 (6 * p + q) = nI (cnF (hby C p q) (if q < j then x + 1 else x))) (fun o => ∃ τ, o = K 102 l1 l2 l3 l4 (nI (x + 1)) τ ∧ Upd P114 σ τ ∧ hrM τ C (x + 1)) (fun j hj m τ hI => ?_) (fun m τ hI => ?_) (pe C) 1100 0 σ (by omega) (by omega) ⟨Upd.refl, fun p hp q hq => by rw [if_neg (by omega)]; exact ht p hp q hq⟩
  · obtain ⟨hu, hr⟩ := hI
    have hT' := hu.hasT hT
    have hM' := mC_lo hu lo114 hT.2.1.1 hM
    have hj6 : j < 6 := by omega
    have hx' : xg τ C (rgF C x) := ⟨fun p hp q hq => (hu.2.1 105 _ rfl).trans (hx.1 p hp q hq), (hu.2.1 105 _ rfl).trans hx.2⟩
    have h192 := f192F hT' hM' hO hx' (rgF_b hO x) hj6
    have hstep : ∀ p, cnF (hby C p j) (x + 1) = if heF C (rgF C x) j = some p then cnF (hby C p j) x + 1 else cnF (hby C p j) x := fun p => by
      rw [cnF]
      unfold hby
      rw [hok, Bool.true_and]
      by_cases e : heF C (rgF C x) j = some p <;> simp [e]
    show ∃ τ', _ ∧ f240_312 K (m + 1) _ _ _ _ _ _ _ _ = f240_312 K m _ _ _ _ _ _ _ _
    rw [f240_312]
    unfold f240_356
    simp only [acM hT'.1, acG hT', acT0 hT'.2.1, Option.bind_some, hM'.1.2.2.1, h192, nI_1]
    rw [if_neg (nI_ge hj (by omega))]
    cases e : heF C (rgF C x) j with
    | none =>
      rw [if_pos (show ob none = -2 from rfl)]
      refine ⟨τ, ⟨hu, fun p hp q hq => ?_⟩, rfl⟩
      rw [hr p hp q hq]
      by_cases eq : q = j
      · subst eq
        rw [if_neg (by omega), if_pos (by omega), hstep p, e, if_neg (by simp)]
      · by_cases e2 : q < j
        · rw [if_pos e2, if_pos (by omega)]
        · rw [if_neg e2, if_neg (by omega)]
    | some k =>
      have hk := heF_6 e
      have hk6 : k < 6 := by omega
      have hold : mI τ 114 (6 * k + j) = nI (cnF (hby C k j) x) := by rw [hr k hk6 j hj, if_neg (by omega)]
      rw [if_neg (ob_ne hk6)]
      simp only [ob_some, show (6 : Int32) = nI 6 from rfl, pk_mul, nI_add, show 6 * k + j < 36 by omega, acM hT'.1, Option.bind_some, hold, nI_1]
      refine ⟨wI τ 114 (6 * k + j) (nI (cnF (hby C k j) x + 1)), ⟨hu.wI rfl, fun p hp q hq => ?_⟩, rfl⟩
      rw [mI_w]
      by_cases eq : q = j
      · subst eq
        rw [if_pos (show q < q + 1 by omega), hstep p, e]
        by_cases ep : k = p
        · subst ep
          rw [if_pos ⟨rfl, rfl⟩, if_pos rfl]
        · rw [if_neg (fun h => ep (Option.some.inj h)), if_neg (by omega), hr p hp q hq, if_neg (by omega)]
      · rw [if_neg (by omega), hr p hp q hq]
        by_cases e2 : q < j
        · rw [if_pos e2, if_pos (by omega)]
        · rw [if_neg e2, if_neg (by omega)]
  · obtain ⟨hu, hr⟩ := hI
    have hT' := hu.hasT hT
    have hM' := mC_lo hu lo114 hT.2.1.1 hM
    refine ⟨τ, ?_, hu, fun p hp q hq => by rw [hr p hp q hq, if_pos hq]⟩
    show f240_312 K (m + 1) _ _ _ _ _ _ _ _ = _
    rw [f240_312]
    simp only [acG hT', acT0 hT'.2.1, Option.bind_some, hM'.1.2.2.1]
    rw [if_pos (nI_le (by omega) (by omega))]
    unfold f240_362
    rw [nI_1]
/-- which one is looked for -/
def oiI (o : Option Nat) : Int32 := match o with
  | none => -1
  | some i => nI i
def oiF (C : Cty) (o : Option Nat) (j : Nat) : Option Nat := match o with
  | none => none
  | some i => fs (nth (fok C) i) 0 j
/-- the reference after the first j codes -/
def ftI (σ : xM) (C : Cty) (o : Option Nat) (k j : Nat) (τ : xM) : Prop := Upd Pft σ τ ∧ mI τ 102 33 = nI (cnF (fok C) j) ∧ tlM τ C j ∧ hrM τ C j ∧ ∀ x, oiF C o j = some x → mI τ 102 34 = nI (lw C k + dg C x k)
theorem oi_snoc {o : Option Nat} {j : Nat} (hx : ∀ i, o = some i → i < 2 ^ 31) (hj : j ≤ 343) : oiF C o (j + 1) = (if fok C j = true ∧ nI (cnF (fok C) j) = oiI o then some j else oiF C o j) ∧ (fok C j = true ∧ nI (cnF (fok C) j) = oiI o → oiF C o j = none) := by
  have hcl := cnF_le (fok C) j
  cases o with
  | none =>
    have hno : ¬ nI (cnF (fok C) j) = oiI none := fun h => by
      have h1 := nI_pos (show cnF (fok C) j < 2 ^ 31 by omega)
      rw [h] at h1
      exact absurd (by decide) h1
    refine ⟨?_, fun h => absurd h.2 hno⟩
    rw [if_neg (fun h => hno h.2)]
    rfl
  | some i =>
    have hi := hx i rfl
    have he : (nI (cnF (fok C) j) = oiI (some i)) = (cnF (fok C) j = i) := propext (nI_eq (by omega) hi)
    simp only [he]
    have hne : fok C j = true ∧ cnF (fok C) j = i → fs (nth (fok C) i) 0 j = none := fun h => by
      refine fs_no _ _ (fun x _ hx => ?_)
      unfold nth
      rw [Bool.and_eq_false_iff, decide_eq_false_iff_not]
      by_cases ex : fok C x = true
      · have := cnF_gt ex j (by omega)
        exact Or.inr (by omega)
      · exact Or.inl (by simpa using ex)
    refine ⟨?_, hne⟩
    show fs (nth (fok C) i) 0 (j + 1) = if fok C j = true ∧ cnF (fok C) j = i then some j else fs (nth (fok C) i) 0 j
    rw [fs_snoc]
    by_cases e : fok C j = true ∧ cnF (fok C) j = i
    · rw [if_pos e, hne e]
      have : nth (fok C) i j = true := by
        unfold nth
        rw [e.1, decide_eq_true e.2]
        rfl
      simp [this]
    · rw [if_neg e]
      have : nth (fok C) i j = false := by
        unfold nth
        rw [Bool.and_eq_false_iff, decide_eq_false_iff_not]
        by_cases e1 : fok C j = true
        · exact Or.inr (fun h => e ⟨e1, h⟩)
        · exact Or.inl (by simpa using e1)
      cases fs (nth (fok C) i) 0 j <;> simp [this]
end REF
