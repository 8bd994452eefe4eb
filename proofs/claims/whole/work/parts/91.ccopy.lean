/-! THE TEXT: the class's city -/
def Pcc : Nat → Nat → Bool := fun a _ => Nat.ble 15 a && Nat.ble a 25
theorem Pcc_no {a : Nat} (k : Nat) (h : a < 15 ∨ 25 < a) : Pcc a k = false := by
  unfold Pcc
  rw [Bool.and_eq_false_iff]
  rcases h with h | h
  · exact Or.inl (by rw [Bool.eq_false_iff]; intro h2; rw [Nat.ble_eq] at h2; omega)
  · exact Or.inr (by rw [Bool.eq_false_iff]; intro h2; rw [Nat.ble_eq] at h2; omega)
theorem Pcc_yes {a : Nat} (k : Nat) (h : 15 ≤ a ∧ a ≤ 25) : Pcc a k = true := by
  unfold Pcc
  rw [Nat.ble_eq.mpr h.1, Nat.ble_eq.mpr h.2]
  rfl
def lnC (j : Nat) : Nat := if j ≤ 5 then 6 else if j ≤ 7 then 36 else 3
section CLASS
variable {σ : xM} {C : Cty}
def jS (σ : xM) (i : Nat) (τ : xM) : Prop := Upd Pcc σ τ ∧ ∀ k, k < i → mI τ 15 k = mI σ 2 k
theorem jS_next {τ : xM} {i : Nat} (h : jS σ i τ) : jS σ (i + 1) (wI τ 15 i (mI τ 2 i)) := by
  refine ⟨h.1.wI (Pcc_yes _ (by omega)), fun k hk => ?_⟩
  rw [mI_w]
  by_cases e : k = i
  · rw [if_pos ⟨rfl, e⟩, h.1.2.1 2 i (Pcc_no _ (by omega)), e]
  · rw [if_neg (fun h => e h.2)]
    exact h.2 k (by omega)
def kA (σ : xM) (j : Nat) (τ : xM) : Prop := Upd Pcc σ τ ∧ (∀ k, k < 7 → mI τ 15 k = mI σ 2 k) ∧ ∀ a, 1 ≤ a → a ≤ j → ∀ k, k < lnC a → mI τ (15 + a) k = mI σ (2 + a) k
theorem kA_next {τ : xM} {j : Nat} (hS : Sh σ) (h : kA σ j τ) (hj : j < 10) (hn : lnC (j + 1) < 2 ^ 31) (h1 : isI τ (15 + (j + 1)) (lnC (j + 1))) (h2 : isI τ (2 + (j + 1)) (lnC (j + 1))) : ∃ τ', cp τ (2 + (j + 1)) 0 (15 + (j + 1)) 0 (nI (lnC (j + 1))) = some τ' ∧ kA σ (j + 1) τ' := by
  refine ⟨_, cpN h1 h2 hn, h.1.wA (fun k => Pcc_yes k (by omega)), fun k hk => ?_, fun a a1 a2 k hk => ?_⟩
  · rw [mI_wA, if_neg (by omega)]
    exact h.2.1 k hk
  · rw [mI_wA]
    by_cases e : a = j + 1
    · subst e
      rw [if_pos rfl, pk_cpy_in (by omega) (by omega), h.1.2.1 _ _ (Pcc_no _ (by omega)), Nat.sub_zero, Nat.zero_add]
    · rw [if_neg (by omega)]
      exact h.2.2 a a1 (by omega) k hk
/-- City.copy -/
theorem f2N (hS : Sh σ) (hC : cC σ 2 C) (hO : OkC C) (hw : ∀ i, i < 36 → mI σ 9 i = nI (wyF C i)) : ∃ τ, f2 15 2 σ = some τ ∧ Upd Pcc σ τ ∧ cC τ 15 C ∧ ∀ i, i < 36 → mI τ 22 i = nI (wyF C i) := by
  have shp : ∀ τ, Upd Pcc σ τ → Sh τ := fun τ hu => hu.sh hS
  have J0 : jS σ 0 σ := ⟨Upd.refl, fun k hk => by omega⟩
  unfold f2
  have S0 := shp _ J0.1
  have J1 := jS_next J0
  simp only [acR S0, acC S0, Option.bind_some]
  generalize wI σ 15 0 (mI σ 2 0) = a1 at J1
  have S1 := shp _ J1.1
  have J2 := jS_next J1
  simp only [acR S1, acC S1, Option.bind_some]
  generalize wI a1 15 1 (mI a1 2 1) = a2 at J2
  have S2 := shp _ J2.1
  have J3 := jS_next J2
  simp only [acR S2, acC S2, Option.bind_some]
  generalize wI a2 15 2 (mI a2 2 2) = a3 at J3
  have S3 := shp _ J3.1
  have J4 := jS_next J3
  simp only [acR S3, acC S3, Option.bind_some]
  generalize wI a3 15 3 (mI a3 2 3) = a4 at J4
  have S4 := shp _ J4.1
  have J5 := jS_next J4
  simp only [acR S4, acC S4, Option.bind_some]
  generalize wI a4 15 4 (mI a4 2 4) = a5 at J5
  have S5 := shp _ J5.1
  have J6 := jS_next J5
  simp only [acR S5, acC S5, Option.bind_some]
  generalize wI a5 15 5 (mI a5 2 5) = a6 at J6
  have S6 := shp _ J6.1
  have J7 := jS_next J6
  simp only [acR S6, acC S6, Option.bind_some]
  generalize wI a6 15 6 (mI a6 2 6) = a7 at J7
  have K0 : kA σ 0 a7 := ⟨J7.1, J7.2, fun a h1 h2 => by omega⟩
  have T0 := shp _ K0.1
  obtain ⟨b1, x1, K1⟩ := kA_next (j := 0) hS K0 (by decide) (by decide) (sh_a T0 (by decide) rfl rfl) (sh_a T0 (by decide) rfl rfl)
  simp only [acR T0, acC T0, Option.bind_some]
  rw [show cp a7 3 0 16 0 6 = some b1 from x1, Option.bind_some]
  have T1 := shp _ K1.1
  obtain ⟨b2, x2, K2⟩ := kA_next (j := 1) hS K1 (by decide) (by decide) (sh_a T1 (by decide) rfl rfl) (sh_a T1 (by decide) rfl rfl)
  simp only [acR T1, acC T1, Option.bind_some]
  rw [show cp b1 4 0 17 0 6 = some b2 from x2, Option.bind_some]
  have T2 := shp _ K2.1
  obtain ⟨b3, x3, K3⟩ := kA_next (j := 2) hS K2 (by decide) (by decide) (sh_a T2 (by decide) rfl rfl) (sh_a T2 (by decide) rfl rfl)
  simp only [acR T2, acC T2, Option.bind_some]
  rw [show cp b2 5 0 18 0 6 = some b3 from x3, Option.bind_some]
  have T3 := shp _ K3.1
  obtain ⟨b4, x4, K4⟩ := kA_next (j := 3) hS K3 (by decide) (by decide) (sh_a T3 (by decide) rfl rfl) (sh_a T3 (by decide) rfl rfl)
  simp only [acR T3, acC T3, Option.bind_some]
  rw [show cp b3 6 0 19 0 6 = some b4 from x4, Option.bind_some]
  have T4 := shp _ K4.1
  obtain ⟨b5, x5, K5⟩ := kA_next (j := 4) hS K4 (by decide) (by decide) (sh_a T4 (by decide) rfl rfl) (sh_a T4 (by decide) rfl rfl)
  simp only [acR T4, acC T4, Option.bind_some]
  rw [show cp b4 7 0 20 0 6 = some b5 from x5, Option.bind_some]
  have T5 := shp _ K5.1
  obtain ⟨b6, x6, K6⟩ := kA_next (j := 5) hS K5 (by decide) (by decide) (sh_a T5 (by decide) rfl rfl) (sh_a T5 (by decide) rfl rfl)
  simp only [acR T5, acC T5, Option.bind_some]
  rw [show cp b5 8 0 21 0 36 = some b6 from x6, Option.bind_some]
  have T6 := shp _ K6.1
  obtain ⟨b7, x7, K7⟩ := kA_next (j := 6) hS K6 (by decide) (by decide) (sh_a T6 (by decide) rfl rfl) (sh_a T6 (by decide) rfl rfl)
  simp only [acR T6, acC T6, Option.bind_some]
  rw [show cp b6 9 0 22 0 36 = some b7 from x7, Option.bind_some]
  have T7 := shp _ K7.1
  obtain ⟨b8, x8, K8⟩ := kA_next (j := 7) hS K7 (by decide) (by decide) (sh_a T7 (by decide) rfl rfl) (sh_a T7 (by decide) rfl rfl)
  simp only [acR T7, acC T7, Option.bind_some]
  rw [show cp b7 10 0 23 0 3 = some b8 from x8, Option.bind_some]
  have T8 := shp _ K8.1
  obtain ⟨b9, x9, K9⟩ := kA_next (j := 8) hS K8 (by decide) (by decide) (sh_a T8 (by decide) rfl rfl) (sh_a T8 (by decide) rfl rfl)
  simp only [acR T8, acC T8, Option.bind_some]
  rw [show cp b8 11 0 24 0 3 = some b9 from x9, Option.bind_some]
  have T9 := shp _ K9.1
  obtain ⟨b10, x10, K10⟩ := kA_next (j := 9) hS K9 (by decide) (by decide) (sh_a T9 (by decide) rfl rfl) (sh_a T9 (by decide) rfl rfl)
  simp only [acR T9, acC T9, Option.bind_some]
  rw [show cp b9 12 0 25 0 3 = some b10 from x10, Option.bind_some]
  obtain ⟨u, s7, ar⟩ := K10
  obtain ⟨⟨a1, a2, a3, a4, a5, a6, a7⟩, c2, c3, c4, c5⟩ := hC
  have hp6 := hO.1
  have hn3 := hO.2.2.2.2.2.2.2.2.2.2.2.1
  refine ⟨b10, rfl, u, ⟨⟨?_, ?_, ?_, ?_, ?_, ?_, ?_⟩, fun p hp => ?_, fun p hp => ?_, fun p hp q hq => ?_, fun k hk => ?_⟩, fun i hi => ?_⟩
  · rw [s7 0 (by omega)]; exact a1
  · rw [s7 1 (by omega)]; exact a2
  · rw [s7 2 (by omega)]; exact a3
  · rw [s7 3 (by omega)]; exact a4
  · rw [s7 4 (by omega)]; exact a5
  · rw [s7 5 (by omega)]; exact a6
  · rw [s7 6 (by omega)]; exact a7
  · rw [ar 1 (by omega) (by omega) p (by show p < 6; omega), ar 2 (by omega) (by omega) p (by show p < 6; omega), ar 3 (by omega) (by omega) p (by show p < 6; omega)]; exact c2 p hp
  · rw [ar 4 (by omega) (by omega) p hp, ar 5 (by omega) (by omega) p hp]; exact c3 p hp
  · rw [ar 6 (by omega) (by omega) _ (by show p * 6 + q < 36; omega)]; exact c4 p hp q hq
  · rw [ar 8 (by omega) (by omega) k (by show k < 3; omega), ar 9 (by omega) (by omega) k (by show k < 3; omega), ar 10 (by omega) (by omega) k (by show k < 3; omega)]; exact c5 k hk
  · have := ar 7 (by omega) (by omega) i (by show i < 36; omega)
    rw [show 15 + 7 = 22 from rfl, show 2 + 7 = 9 from rfl] at this
    rw [this]
    exact hw i hi
end CLASS
