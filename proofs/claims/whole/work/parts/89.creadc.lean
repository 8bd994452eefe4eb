/-! THE TEXT: the class's readCity -/
/-- all lines: a fault, or a draft -/
def rAll (f : Nat → Int32) (N : Nat) : Nat → Drf → Nat → Sum (Nat × Nat) Drf
  | 0, _, _ => .inl (1, 0)
  | k + 1, D, e => match lLine f N D e with
    | .inl x => .inl x
    | .inr y => if tkK f N y.1 = 3 then rAll f N k y.2 (tkE f N y.1) else if tkK f N y.1 = 0 then (if pe (dC y.2) = 0 then .inl (6, tkS f N y.1) else .inr y.2) else .inl (1, tkS f N y.1)
/-- what a text tells -/
def rTxt (f : Nat → Int32) (N : Nat) : Sum (Nat × Nat) Drf := rAll f N (N + 1) D0 0
section CLASS
variable {σ : xM} {f : Nat → Int32} {N e : Nat} {D : Drf} {C : Cty}
def P9 : Nat → Nat → Bool := fun a _ => Nat.beq a 9
/-- measureWays, of the reader's city -/
theorem f5N (hS : Sh σ) (nr' : Nat → Int32) (hn : ∀ p, p < 6 → mI σ 6 p = nr' p) : ∃ τ, f5 2 σ = some τ ∧ Upd P9 σ τ ∧ ((∀ p, p < 6 → nr' p = nI (nr C p) ∧ nr C p < 64) → ∀ i, i < 36 → mI τ 9 i = nI (wyF C i)) := by
  have A1 : ∃ τ, f5 2 σ = f5_59 2 τ ∧ Upd P9 σ τ ∧ ((∀ p, p < 6 → nr' p = nI (nr C p) ∧ nr C p < 64) → ∀ i, i < 36 → mI τ 9 i = nI (wy0 C i)) := by
    unfold f5
    refine lpI (fun m j τ => f5_2 m 2 (nI j) τ) 36 (fun j τ => Upd P9 σ τ ∧ ((∀ p, p < 6 → nr' p = nI (nr C p) ∧ nr C p < 64) → ∀ i, i < j → mI τ 9 i = nI (wy0 C i))) (fun o => ∃ τ, o = f5_59 2 τ ∧ Upd P9 σ τ ∧ ((∀ p, p < 6 → nr' p = nI (nr C p) ∧ nr C p < 64) → ∀ i, i < 36 → mI τ 9 i = nI (wy0 C i))) (fun j hj m τ hI => ?_) (fun m τ hI => ?_) 36 1100 0 σ rfl (by omega) ⟨Upd.refl, fun _ i hi => by omega⟩
    · obtain ⟨hu, hv⟩ := hI
      have hS' := hu.sh hS
      have q1 : dI (nI j) 6 = some (nI (j / 6)) := dIN (x := j) (y := 6) (by omega) (by omega) (by omega)
      have q2 : rI (nI j) 6 = some (nI (j % 6)) := rIN (x := j) (y := 6) (by omega) (by omega) (by omega)
      have c6 : mI τ 6 (j / 6) = nr' (j / 6) := (hu.2.1 6 _ rfl).trans (hn _ (by omega))
      have hgo : ∀ v : Int32, ((∀ p, p < 6 → nr' p = nI (nr C p) ∧ nr C p < 64) → v = nI (wy0 C j)) → Upd P9 σ (wI τ 9 j v) ∧ ((∀ p, p < 6 → nr' p = nI (nr C p) ∧ nr C p < 64) → ∀ i, i < j + 1 → mI (wI τ 9 j v) 9 i = nI (wy0 C i)) := fun v hv' => by
        refine ⟨hu.wI rfl, fun hh i hi => ?_⟩
        rw [mI_w]
        by_cases ei : i = j
        · rw [if_pos ⟨rfl, ei⟩, ei]; exact hv' hh
        · rw [if_neg (fun h => ei h.2)]; exact hv hh i (by omega)
      show ∃ τ', _ ∧ f5_2 (m + 1) _ _ _ = f5_2 m _ _ _
      rw [f5_2, if_neg (show ¬ (36 : Int32) ≤ nI j from nI_ge (b := 36) hj (by omega)), q1, Option.bind_some, q2, Option.bind_some]
      unfold f5_52
      simp only [acR hS', Option.bind_some, show j / 6 < 6 by omega, c6, f124_eq, nI_eq (show j / 6 < 2 ^ 31 by omega) (show j % 6 < 2 ^ 31 by omega), hj, nI_1]
      by_cases e1 : j / 6 = j % 6
      · rw [if_pos e1]
        exact ⟨_, hgo 0 (fun _ => by unfold wy0; rw [if_pos e1]; rfl), rfl⟩
      · rw [if_neg e1]
        by_cases e2 : inF (nr' (j / 6)) (nI (j % 6)) = 0
        · rw [if_pos e2]
          refine ⟨_, hgo 1000 (fun hh => ?_), rfl⟩
          obtain ⟨a, b⟩ := hh (j / 6) (by omega)
          rw [a, inN _ b _ (by omega)] at e2
          unfold wy0
          rw [if_neg e1]
          cases ht : tb (nr C (j / 6)) (j % 6)
          · rfl
          · rw [ht] at e2; exact absurd e2 (by decide)
        · rw [if_neg e2]
          refine ⟨_, hgo 1 (fun hh => ?_), rfl⟩
          obtain ⟨a, b⟩ := hh (j / 6) (by omega)
          rw [a, inN _ b _ (by omega)] at e2
          unfold wy0
          rw [if_neg e1]
          cases ht : tb (nr C (j / 6)) (j % 6)
          · rw [ht] at e2; exact absurd rfl e2
          · rfl
    · obtain ⟨hu, hv⟩ := hI
      refine ⟨τ, ?_, hu, hv⟩
      show f5_2 (m + 1) _ _ _ = _
      rw [f5_2, if_pos (show (36 : Int32) ≤ nI 36 by decide)]
  obtain ⟨τ1, a1, a2, a3⟩ := A1
  rw [a1]
  unfold f5_59
  refine lpI (fun m b τ => f5_61 m 2 (nI b) τ) 6 (fun b τ => Upd P9 σ τ ∧ ((∀ p, p < 6 → nr' p = nI (nr C p) ∧ nr C p < 64) → ∀ i, i < 36 → mI τ 9 i = nI (fwB b (wy0 C) i))) (fun o => ∃ τ, o = some τ ∧ Upd P9 σ τ ∧ ((∀ p, p < 6 → nr' p = nI (nr C p) ∧ nr C p < 64) → ∀ i, i < 36 → mI τ 9 i = nI (wyF C i))) (fun b hb m τ hI => ?_) (fun m τ hI => ?_) 6 1100 0 τ1 rfl (by omega) ⟨a2, a3⟩
  · obtain ⟨hu, hv⟩ := hI
    have hin : ∃ υ, f5_69 (f5_61 m) 1100 2 (nI b) 0 τ = f5_61 m 2 (nI (b + 1)) υ ∧ Upd P9 σ υ ∧ ((∀ p, p < 6 → nr' p = nI (nr C p) ∧ nr C p < 64) → ∀ i, i < 36 → mI υ 9 i = nI (fwS b 36 (fwB b (wy0 C)) i)) := by
      refine lpI (fun k j υ => f5_69 (f5_61 m) k 2 (nI b) (nI j) υ) 36 (fun j υ => Upd P9 σ υ ∧ ((∀ p, p < 6 → nr' p = nI (nr C p) ∧ nr C p < 64) → ∀ i, i < 36 → mI υ 9 i = nI (fwS b j (fwB b (wy0 C)) i))) (fun o => ∃ υ, o = f5_61 m 2 (nI (b + 1)) υ ∧ Upd P9 σ υ ∧ ((∀ p, p < 6 → nr' p = nI (nr C p) ∧ nr C p < 64) → ∀ i, i < 36 → mI υ 9 i = nI (fwS b 36 (fwB b (wy0 C)) i))) (fun j hj k υ hI => ?_) (fun k υ hI => ?_) 36 1100 0 τ rfl (by omega) ⟨hu, hv⟩
      · obtain ⟨hu1, hv1⟩ := hI
        have hS' := hu1.sh hS
        have q1 : dI (nI j) 6 = some (nI (j / 6)) := dIN (x := j) (y := 6) (by omega) (by omega) (by omega)
        have q2 : rI (nI j) 6 = some (nI (j % 6)) := rIN (x := j) (y := 6) (by omega) (by omega) (by omega)
        show ∃ τ', _ ∧ f5_69 (f5_61 m) (k + 1) _ _ _ _ = f5_69 (f5_61 m) k _ _ _ _
        rw [f5_69, if_neg (show ¬ (36 : Int32) ≤ nI j from nI_ge (b := 36) hj (by omega))]
        simp only [acR hS', Option.bind_some, q1, q2, f125_eq, nI_pair, show j / 6 * 6 + b < 36 by omega, show b * 6 + j % 6 < 36 by omega, hj, nI_1]
        refine ⟨_, ⟨hu1.wI rfl, fun hh i hi => ?_⟩, rfl⟩
        have hv2 := hv1 hh
        have hle : ∀ i, i < 36 → fwS b j (fwB b (wy0 C)) i ≤ 1000 := fun i hi => by
          have hinv := fw_inv (C := C) b (by omega)
          rw [fwS_get hb (hinv.1 b hb)]
          have h1 := (hinv.2.1 (i / 6) (i % 6) (by omega) (by omega)).1
          rw [show i / 6 * 6 + i % 6 = i by omega] at h1
          split <;> omega
        rw [mI_w]
        show _ = nI (if i = j then min (fwS b j (fwB b (wy0 C)) j) (fwS b j (fwB b (wy0 C)) (j / 6 * 6 + b) + fwS b j (fwB b (wy0 C)) (b * 6 + j % 6)) else fwS b j (fwB b (wy0 C)) i)
        by_cases ei : i = j
        · have l1 := hle j hj
          have l2 := hle (j / 6 * 6 + b) (by omega)
          have l3 := hle (b * 6 + j % 6) (by omega)
          rw [if_pos ⟨rfl, ei⟩, if_pos ei, hv2 j hj, hv2 _ (show j / 6 * 6 + b < 36 by omega), hv2 _ (show b * 6 + j % 6 < 36 by omega), nI_add, minN (by omega) (by omega), Nat.min_comm]
        · rw [if_neg (fun h => ei h.2), if_neg ei]
          exact hv2 i hi
      · obtain ⟨hu1, hv1⟩ := hI
        refine ⟨υ, ?_, hu1, hv1⟩
        show f5_69 (f5_61 m) (k + 1) _ _ _ _ = _
        rw [f5_69, if_pos (show (36 : Int32) ≤ nI 36 by decide)]
        unfold f5_125
        rw [nI_1]
    obtain ⟨υ, v1, v2, v3⟩ := hin
    refine ⟨υ, ⟨v2, v3⟩, ?_⟩
    show f5_61 (m + 1) _ _ _ = f5_61 m _ _ _
    rw [f5_61, if_neg (show ¬ (6 : Int32) ≤ nI b from nI_ge (b := 6) hb (by omega)), v1]
  · obtain ⟨hu, hv⟩ := hI
    refine ⟨τ, ?_, hu, hv⟩
    show f5_61 (m + 1) _ _ _ = _
    rw [f5_61, if_pos (show (6 : Int32) ≤ nI 6 by decide)]
    rfl
/-- clear, of the reader's city -/
def Pcl : Nat → Nat → Bool := fun a _ => Nat.beq a 2 || (Nat.beq a 6 || (Nat.beq a 7 || Nat.beq a 8))
theorem f1N (hS : Sh σ) : ∃ τ, f1 2 σ = some τ ∧ Upd Pcl σ τ ∧ cC τ 2 C0 := by
  have A0 : ∃ τ, f1 2 σ = f1_37 1100 2 0 τ ∧ Upd Pcl σ τ ∧ ∀ k, k < 7 → mI τ 2 k = 0 := by
    have S1 : ∀ τ, Upd Pcl σ τ → Sh τ := fun τ hu => hu.sh hS
    unfold f1
    have u1 : Upd Pcl σ (wI σ 2 0 0) := Upd.refl.wI rfl
    have u2 := u1.wI (a := 2) (k := 1) (x := 0) rfl
    have u3 := u2.wI (a := 2) (k := 2) (x := 0) rfl
    have u4 := u3.wI (a := 2) (k := 3) (x := 0) rfl
    have u5 := u4.wI (a := 2) (k := 4) (x := 0) rfl
    have u6 := u5.wI (a := 2) (k := 5) (x := 0) rfl
    have u7 := u6.wI (a := 2) (k := 6) (x := 0) rfl
    refine ⟨wI (wI (wI (wI (wI (wI (wI σ 2 0 0) 2 1 0) 2 2 0) 2 3 0) 2 4 0) 2 5 0) 2 6 0, ?_, u7, fun k hk => ?_⟩
    · simp only [acR hS, Option.bind_some]
      simp only [acR (S1 _ u1), Option.bind_some]
      simp only [acR (S1 _ u2), Option.bind_some]
      simp only [acR (S1 _ u3), Option.bind_some]
      simp only [acR (S1 _ u4), Option.bind_some]
      simp only [acR (S1 _ u5), Option.bind_some]
      simp only [acR (S1 _ u6), Option.bind_some]
    · rcases (by omega : k = 0 ∨ k = 1 ∨ k = 2 ∨ k = 3 ∨ k = 4 ∨ k = 5 ∨ k = 6) with rfl | rfl | rfl | rfl | rfl | rfl | rfl
      · iterate 6 rw [mI_w, if_neg (by omega)]
        rw [mI_w, if_pos ⟨rfl, rfl⟩]
      · iterate 5 rw [mI_w, if_neg (by omega)]
        rw [mI_w, if_pos ⟨rfl, rfl⟩]
      · iterate 4 rw [mI_w, if_neg (by omega)]
        rw [mI_w, if_pos ⟨rfl, rfl⟩]
      · iterate 3 rw [mI_w, if_neg (by omega)]
        rw [mI_w, if_pos ⟨rfl, rfl⟩]
      · iterate 2 rw [mI_w, if_neg (by omega)]
        rw [mI_w, if_pos ⟨rfl, rfl⟩]
      · rw [mI_w, if_neg (by omega), mI_w, if_pos ⟨rfl, rfl⟩]
      · rw [mI_w, if_pos ⟨rfl, rfl⟩]
  obtain ⟨τ0, z1, z2, z3⟩ := A0
  have A1 : ∃ τ, f1_37 1100 2 0 τ0 = f1_64 2 τ ∧ Upd Pcl σ τ ∧ (∀ k, k < 7 → mI τ 2 k = 0) ∧ ∀ p, p < 6 → mI τ 6 p = 0 ∧ mI τ 7 p = -3 := by
    refine lpI (fun m j τ => f1_37 m 2 (nI j) τ) 6 (fun j τ => Upd Pcl σ τ ∧ (∀ k, k < 7 → mI τ 2 k = 0) ∧ ∀ p, p < j → mI τ 6 p = 0 ∧ mI τ 7 p = -3) (fun o => ∃ τ, o = f1_64 2 τ ∧ Upd Pcl σ τ ∧ (∀ k, k < 7 → mI τ 2 k = 0) ∧ ∀ p, p < 6 → mI τ 6 p = 0 ∧ mI τ 7 p = -3) (fun j hj m τ hI => ?_) (fun m τ hI => ?_) 6 1100 0 τ0 rfl (by omega) ⟨z2, z3, fun p hp => by omega⟩
    · obtain ⟨hu, h2, h3⟩ := hI
      have hS' := hu.sh hS
      have hS2 : Sh (wI τ 6 j 0) := hS'
      refine ⟨wI (wI τ 6 j 0) 7 j (-3), ⟨(hu.wI rfl).wI rfl, fun k hk => ?_, fun p hp => ?_⟩, ?_⟩
      · rw [mI_w, if_neg (by omega), mI_w, if_neg (by omega)]; exact h2 k hk
      · by_cases ep : p = j
        · rw [mI_w, if_neg (by omega), mI_w, if_pos ⟨rfl, ep⟩, mI_w, if_pos ⟨rfl, ep⟩]; exact ⟨rfl, rfl⟩
        · rw [mI_w, if_neg (by omega), mI_w, if_neg (by omega), mI_w, if_neg (by omega), mI_w, if_neg (by omega)]; exact h3 p (by omega)
      · show f1_37 (m + 1) _ _ _ = f1_37 m _ _ _
        rw [f1_37, if_neg (show ¬ (6 : Int32) ≤ nI j from nI_ge (b := 6) hj (by omega))]
        simp only [acR hS', Option.bind_some, hj, acR hS2, nI_1]
    · obtain ⟨hu, h2, h3⟩ := hI
      refine ⟨τ, ?_, hu, h2, h3⟩
      show f1_37 (m + 1) _ _ _ = _
      rw [f1_37, if_pos (show (6 : Int32) ≤ nI 6 by decide)]
  obtain ⟨τ1, y1, y2, y3, y4⟩ := A1
  have A2 : ∃ τ, f1_64 2 τ1 = some τ ∧ Upd Pcl σ τ ∧ (∀ k, k < 7 → mI τ 2 k = 0) ∧ (∀ p, p < 6 → mI τ 6 p = 0 ∧ mI τ 7 p = -3) ∧ ∀ i, i < 36 → mI τ 8 i = -2 := by
    unfold f1_64
    refine lpI (fun m j τ => f1_66 m 2 (nI j) τ) 36 (fun j τ => Upd Pcl σ τ ∧ (∀ k, k < 7 → mI τ 2 k = 0) ∧ (∀ p, p < 6 → mI τ 6 p = 0 ∧ mI τ 7 p = -3) ∧ ∀ i, i < j → mI τ 8 i = -2) (fun o => ∃ τ, o = some τ ∧ Upd Pcl σ τ ∧ (∀ k, k < 7 → mI τ 2 k = 0) ∧ (∀ p, p < 6 → mI τ 6 p = 0 ∧ mI τ 7 p = -3) ∧ ∀ i, i < 36 → mI τ 8 i = -2) (fun j hj m τ hI => ?_) (fun m τ hI => ?_) 36 1100 0 τ1 rfl (by omega) ⟨y2, y3, y4, fun p hp => by omega⟩
    · obtain ⟨hu, h2, h3, h4⟩ := hI
      have hS' := hu.sh hS
      refine ⟨wI τ 8 j (-2), ⟨hu.wI rfl, fun k hk => ?_, fun p hp => ?_, fun i hi => ?_⟩, ?_⟩
      · rw [mI_w, if_neg (by omega)]; exact h2 k hk
      · rw [mI_w, if_neg (by omega), mI_w, if_neg (by omega)]; exact h3 p hp
      · rw [mI_w]
        by_cases ei : i = j
        · rw [if_pos ⟨rfl, ei⟩]
        · rw [if_neg (fun h => ei h.2)]; exact h4 i (by omega)
      · show f1_66 (m + 1) _ _ _ = f1_66 m _ _ _
        rw [f1_66, if_neg (show ¬ (36 : Int32) ≤ nI j from nI_ge (b := 36) hj (by omega))]
        simp only [acR hS', Option.bind_some, hj, nI_1]
    · obtain ⟨hu, h2, h3, h4⟩ := hI
      refine ⟨τ, ?_, hu, h2, h3, h4⟩
      show f1_66 (m + 1) _ _ _ = _
      rw [f1_66, if_pos (show (36 : Int32) ≤ nI 36 by decide)]
      rfl
  obtain ⟨τ2, x1, x2, x3, x4, x5⟩ := A2
  refine ⟨τ2, by rw [z1, y1, x1], x2, ⟨x3 0 (by omega), x3 1 (by omega), x3 2 (by omega), x3 3 (by omega), x3 4 (by omega), x3 5 (by omega), x3 6 (by omega)⟩, fun p hp => ?_, fun p hp => ⟨(x4 p hp).1, (x4 p hp).2⟩, fun p hp q hq => x5 _ (by omega), fun k hk => ?_⟩
  · have hp : p < 0 := hp
    omega
  · have hk : k < 0 := hk
    omega
end CLASS
