/-! THE WORLD: the first one -/
def sta0 : Sta := (fun _ => 0, fun _ _ => some 0, 0, 0, 0, 0, 0)
def xdg2 (σ : xM) : Bool := xdig σ && ((List.range 7).all (fun k => decide (mI σ 15 k = 0)) && ((List.range 36).all (fun k => decide (mI σ 28 k = 0)) && ((List.range 5).all (fun k => decide (mI σ 26 k = 0)) && ((List.range 3).all (fun k => decide (mI σ 32 k = 0)) && (decide (mI σ 1 0 = 0) && (decide (mI σ 0 8 = 0) && (decide (mI σ 0 9 = 0) && ((List.range 41).all (fun k => decide (mI σ 104 (6 + k) = 0)) && ([1, 6, 12, 20, 21].all (fun k => decide (mI σ 102 k = 0)) && (decide (mI σ 102 2 = -1) && Nat.ble (mU σ) 8000))))))))))
set_option maxRecDepth 100000 in
theorem xdg2_ok : (xmade.map xdg2) = some true := by decide +kernel
theorem all_r {n : Nat} {p : Nat → Bool} (h : (List.range n).all p = true) {k : Nat} (hk : k < n) : p k = true := List.all_eq_true.mp h k (List.mem_range.mpr hk)
theorem rng_D {n a : Nat} {g : Nat → Nat} (ha : a < n) : ((List.range n).map g).getD a 0 = g a := by
  simp [List.getD_eq_getElem?_getD, ha]
theorem xdig_Sh {σ : xM} (h : xdig σ = true) : Sh σ ∧ mN σ = 115 ∧ mR σ 102 3 = none := by
  unfold xdig at h
  simp only [Bool.and_eq_true, Nat.beq_eq, decide_eq_true_eq, List.all_eq_true] at h
  obtain ⟨⟨⟨⟨⟨h1, h2⟩, h3⟩, h4⟩, h5⟩, h6⟩ := h
  refine ⟨⟨by omega, fun a ha => ⟨?_, ?_⟩, h4⟩, h1, h5⟩
  · rw [← h2]
    exact (rng_D ha).symm
  · rw [← h3]
    exact (rng_D ha).symm
theorem C0_H : OkH C0 := fun i j hi _ _ _ => absurd hi (Nat.not_lt_zero i)
theorem first_W : ∃ σ, xmade = some σ ∧ Wd σ ∧ mN σ = 115 ∧ mU σ ≤ 8000 := by
  have h := xdg2_ok
  cases e : xmade with
  | none => rw [e] at h; cases h
  | some σ =>
    rw [e] at h
    have h : xdg2 σ = true := Option.some.inj h
    unfold xdg2 at h
    simp only [Bool.and_eq_true] at h
    obtain ⟨d, h1, h2, h3, h4, h5, h6, h7, h8, h9, h10, h11⟩ := h
    obtain ⟨hS, hn, hr⟩ := xdig_Sh d
    have a1 : ∀ k, k < 7 → mI σ 15 k = 0 := fun k hk => of_decide_eq_true (all_r h1 hk)
    have a2 : ∀ k, k < 36 → mI σ 28 k = 0 := fun k hk => of_decide_eq_true (all_r h2 hk)
    have a3 : ∀ k, k < 5 → mI σ 26 k = 0 := fun k hk => of_decide_eq_true (all_r h3 hk)
    have a4 : ∀ k, k < 3 → mI σ 32 k = 0 := fun k hk => of_decide_eq_true (all_r h4 hk)
    have a8 : ∀ k, k < 41 → mI σ 104 (6 + k) = 0 := fun k hk => of_decide_eq_true (all_r h8 hk)
    have a9 : ∀ k, k ∈ [1, 6, 12, 20, 21] → mI σ 102 k = 0 := fun k hk => of_decide_eq_true (List.all_eq_true.mp h9 k hk)
    have hk : Ok (pe C0) sta0 := ⟨by decide, by decide, fun p hp => absurd hp (Nat.not_lt_zero p), by decide, by decide, fun p q x hx => by cases hx; decide, by decide, by decide, fun p hp => absurd hp (Nat.not_lt_zero p)⟩
    refine ⟨σ, rfl, ⟨C0, sta0, fun _ => sta0, 0, fun _ => sta0, 0, 0, fun _ => 0, 0, 0, -1, ⟨⟨hS, a1 2 (by omega), ⟨fun p hp => absurd hp (Nat.not_lt_zero p), fun p hp q hq => a2 _ (by omega), a3 4 (by omega), a3 3 (by omega), a3 0 (by omega), a3 2 (by omega), a3 1 (by omega)⟩, hk, fun hp => absurd hp (by decide)⟩, ⟨a1 0 (by omega), a1 1 (by omega), a1 2 (by omega), a1 3 (by omega), a1 4 (by omega), a1 5 (by omega), a1 6 (by omega)⟩, ⟨by omega, a4 0 (by omega), 0, by omega, a4 2 (by omega), fun i hi => absurd hi (Nat.not_lt_zero i)⟩, ⟨by omega, a4 1 (by omega), fun i hi => absurd hi (Nat.not_lt_zero i)⟩, ⟨by omega, of_decide_eq_true h5, fun i hi => absurd hi (Nat.not_lt_zero i)⟩, of_decide_eq_true h6, of_decide_eq_true h7, fun h => absurd h n4_0⟩, ⟨⟨hS, hk, ⟨fun p hp => absurd hp (Nat.not_lt_zero p), fun p hp q hq => ?_, a8 36 (by omega), a8 37 (by omega), a8 38 (by omega), a8 39 (by omega), a8 40 (by omega)⟩, Or.inl ⟨rfl, hr⟩⟩, ⟨by omega, a9 20 (by simp), fun i hi => absurd hi (Nat.not_lt_zero i)⟩, ⟨by omega, a9 21 (by simp), fun i hi => absurd hi (Nat.not_lt_zero i)⟩, ⟨by omega, a9 6 (by simp), fun i hi => absurd hi (Nat.not_lt_zero i)⟩, a9 1 (by simp), a9 12 (by simp), of_decide_eq_true h10⟩, ⟨C0_H, fun _ => ⟨rfl, rfl, rfl, rfl, rfl, rfl, rfl, rfl, rfl, rfl, rfl⟩, by decide, fun i hi => absurd hi (Nat.not_lt_zero i), fun i hi => absurd hi (Nat.not_lt_zero i), fun i hi => absurd hi (Nat.not_lt_zero i), fun _ => rfl⟩⟩, hn, Nat.ble_eq.mp h11⟩
    have := a8 (6 * p + q) (by omega)
    rw [← Nat.add_assoc] at this
    exact this
/-- a new cell changes nothing -/
theorem Wd_new {σ : xM} {c n u : Nat} (h : Wd σ) : Wd (sNew σ c n u) := by
  obtain ⟨C, s, ps, na, im, ni, m, f, r, ft, wh, hC, hM, hO⟩ := h
  have hS := hC.1.1
  have h115 := hS.1
  have hS1 : Sh (sNew σ c n u) := by
    refine Old.sh (m := mN σ) (σ := σ) (fun a ha => ⟨?_, ?_, fun k => ?_, fun k => ?_, fun k => ?_⟩) h115 (by show 115 ≤ mN σ + 1; omega) hS
    · rw [mK_n, if_neg (by omega)]
    · rw [mL_n, if_neg (by omega)]
    · rw [mI_n, if_neg (by omega)]
    · rw [mJ_n, if_neg (by omega)]
    · rw [mR_n, if_neg (by omega)]
  refine ⟨C, s, ps, na, im, ni, m, f, r, ft, wh, CW_fr ⟨hS1, fun a ha => funext (fun k => ?_)⟩ hC, MW_fr ⟨hS1, by show mN σ ≤ mN σ + 1; omega, fun a _ ha => ⟨?_, ?_, funext (fun k => ?_), funext (fun k => ?_)⟩⟩ hM, hO⟩
  · rw [mI_n, if_neg (by omega)]
  · rw [mK_n, if_neg (by omega)]
  · rw [mL_n, if_neg (by omega)]
  · rw [mR_n, if_neg (by omega)]
  · rw [mI_n, if_neg (by omega)]
