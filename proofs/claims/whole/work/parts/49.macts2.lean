/-! ACTS: the reference's ask, die, night -/
def PmA : Nat → Nat → Bool := fun a k => PmQ a k || (Nat.beq a 104 || (Nat.beq a 106 || (Nat.beq a 107 || (Nat.beq a 102 && (Nat.beq k 20 || Nat.beq k 21)))))
theorem loA : lo PmA := fun a k ha => by
  unfold PmA
  rw [loQ a k ha, beqF (show a ≠ 104 by omega), beqF (show a ≠ 106 by omega), beqF (show a ≠ 107 by omega), beqF (show a ≠ 102 by omega)]
  rfl
theorem mA_Q {σ τ : xM} (h : Upd PmQ σ τ) : Upd PmA σ τ := h.mono (fun a k hq => by
  unfold PmA at hq
  rw [Bool.or_eq_false_iff] at hq
  exact hq.1)
theorem mA_106 {σ τ : xM} (h : Upd P106 σ τ) : Upd PmA σ τ := h.mono (fun a k hq => by
  unfold PmA at hq
  simp only [Bool.or_eq_false_iff, Bool.and_eq_false_iff] at hq
  unfold P106
  rw [hq.2.2.1]
  rcases hq.2.2.2.2 with h2 | h2
  · rw [h2]; rfl
  · rw [h2.1]; simp)
theorem mA_104 {σ τ : xM} (h : Upd P104 σ τ) : Upd PmA σ τ := h.mono (fun a k hq => by
  unfold PmA at hq
  simp only [Bool.or_eq_false_iff] at hq
  exact hq.2.1)
def mA (σ : xM) (C : Cty) (o : Option (Int32 × xM)) (x : Act) : Prop := ∃ τ, o = some (x.1, τ) ∧ Upd PmA σ τ ∧ mI τ 102 1 = x.2.1 ∧ mI τ 102 2 = -1 ∧ mI τ 102 0 = 0 ∧ mrow (mI τ 104) (pe C) x.2.2.1 ∧ mP τ (pe C) x.2.2.2.1 x.2.2.2.2.1 ∧ mIm τ (pe C) x.2.2.2.2.2.1 x.2.2.2.2.2.2
theorem mP_upd {P : Nat → Nat → Bool} {σ τ : xM} {n na : Nat} {ps : Nat → Sta} (hu : Upd P σ τ) (h1 : P 102 20 = false) (h2 : ∀ k, P 106 k = false) (h : mP σ n ps na) : mP τ n ps na := by
  obtain ⟨p1, p2, p3⟩ := h
  refine ⟨p1, (hu.2.1 _ _ h1).trans p2, fun i hi => ?_⟩
  have : (fun k => mI τ 106 (47 * (na - 1 - i) + k)) = (fun k => mI σ 106 (47 * (na - 1 - i) + k)) := funext (fun k => hu.2.1 _ _ (h2 _))
  rw [this]
  exact p3 i hi
theorem mIm_upd {P : Nat → Nat → Bool} {σ τ : xM} {n ni : Nat} {im : Nat → Sta} (hu : Upd P σ τ) (h1 : P 102 21 = false) (h2 : ∀ k, P 107 k = false) (h : mIm σ n im ni) : mIm τ n im ni := by
  obtain ⟨p1, p2, p3⟩ := h
  refine ⟨p1, (hu.2.1 _ _ h1).trans p2, fun i hi => ?_⟩
  have : (fun k => mI τ 107 (47 * i + k)) = (fun k => mI σ 107 (47 * i + k)) := funext (fun k => hu.2.1 _ _ (h2 _))
  rw [this]
  exact p3 i hi
section REF
variable {σ : xM} {c n : Nat} {s : Sta} {C : Cty} {ps im : Nat → Sta} {na ni : Nat}
theorem mA_of {o : Option (Int32 × xM)} {x : Int32 × Int32} (h : QM σ C s) (hP : mP σ (pe C) ps na) (hI : mIm σ (pe C) im ni) (hq : mQ σ o x) : mA σ C o (x.1, x.2, s, ps, na, im, ni) := by
  obtain ⟨τ, t1, t2, t3, t4, t5⟩ := hq
  exact ⟨τ, t1, mA_Q t2, t3, t4, t5, (QM_upd t2 h).2.2.1, mP_upd t2 rfl (fun _ => rfl) hP, mIm_upd t2 rfl (fun _ => rfl) hI⟩
/-- asks -/
theorem f224N (hA : AM σ c C s) {i j : Nat} (hi : i < pe C) (hj : j < pe C) (hij : i ≠ j) : ∃ τ, f224 102 (nI i) (nI j) σ = some τ ∧ Upd P105 σ τ ∧ mrow (mI τ 105) (pe C) (giv s (gv C) i j) := by
  obtain ⟨hT, hM, hO, hx, hk⟩ := id hA
  obtain ⟨c1, c2, c3, c4, c5, c6, c7⟩ := hx
  have h6 := hk.1
  have hc := hT.2.1.1
  have b1 := hk.has hj
  have hg : gv C ≤ 9 := hO.2.2.2.2.2.2.2.2.2.2.1
  have e4 : gvn s (gv C) j ≤ hs s j := Nat.min_le_left _ _
  let τ1 := wI σ 105 44 (nI (hr s + 1))
  let τ2 := wI τ1 105 (6 + 6 * i + j) (nI (hr s + 1))
  let τ3 := wI τ2 105 j (nI (hs s j - gvn s (gv C) j))
  let τ4 := wI τ3 105 i (nI (hs s i + gvn s (gv C) j))
  have u4 : Upd P105 σ τ4 := (((Upd.refl.wI rfl).wI rfl).wI rfl).wI rfl
  have T2 : hasT τ2 c := hT
  have S1 : Sh τ1 := hT.1
  have S2 : Sh τ2 := hT.1
  have S3 : Sh τ3 := hT.1
  have x2 : ∀ k, k ≠ 44 → k ≠ 6 + 6 * i + j → mI τ2 105 k = mI σ 105 k := fun k a b => by
    show mI (wI (wI σ 105 44 _) 105 _ _) 105 k = _
    rw [mI_w, if_neg (fun h => b h.2), mI_w, if_neg (fun h => a h.2)]
  have q1 : mI τ1 105 44 = nI (hr s + 1) := by show mI (wI σ 105 44 _) 105 44 = _; rw [mI_w, if_pos ⟨rfl, rfl⟩]
  have q2 : mI τ2 105 j = nI (hs s j) := by rw [x2 j (by omega) (by omega)]; exact c1 j hj
  have q3 : mI τ2 c 1 = nI (gv C) := by
    show mI (wI (wI σ 105 44 _) 105 _ _) c 1 = _
    rw [mI_w, if_neg (by omega), mI_w, if_neg (by omega)]
    exact hM.1.2.1
  have q4 : mI τ3 105 i = nI (hs s i) := by
    show mI (wI τ2 105 j _) 105 i = _
    rw [mI_w, if_neg (fun h => hij h.2), x2 i (by omega) (by omega)]
    exact c1 i hi
  have hend : f224_64 102 (nI i) (nI j) (nI (gvn s (gv C) j)) τ2 = some τ4 := by
    unfold f224_64
    simp only [acM S2, Option.bind_some, show j < 47 by omega, q2]
    rw [pk_sub e4, show wI τ2 105 j (nI (hs s j - gvn s (gv C) j)) = τ3 from rfl]
    simp only [acM S3, Option.bind_some, show i < 47 by omega, q4, nI_add]
    rfl
  refine ⟨τ4, ?_, u4, ?_⟩
  · unfold f224
    simp only [acM hT.1, Option.bind_some, litM, show 44 < 47 by omega, c5, nI_1]
    rw [show wI σ 105 44 (nI (hr s + 1)) = τ1 from rfl]
    simp only [acM S1, Option.bind_some, show 44 < 47 by omega, q1, show (6 : Int32) = nI 6 from rfl, pk_mul, nI_add, show 6 + 6 * i + j < 47 by omega]
    rw [show wI τ1 105 (6 + 6 * i + j) (nI (hr s + 1)) = τ2 from rfl]
    simp only [acM S2, acG T2, acT0 T2.2.1, Option.bind_some, show j < 47 by omega, q2, q3, nI_leI (show gv C < 2 ^ 31 by omega) (show hs s j < 2 ^ 31 by omega)]
    by_cases e : gv C ≤ hs s j
    · rw [if_pos e]
      rw [show gvn s (gv C) j = gv C from Nat.min_eq_right e] at hend
      rw [hend]
    · rw [if_neg e]
      rw [show gvn s (gv C) j = hs s j from Nat.min_eq_left (by omega)] at hend
      rw [hend]
  · have x4 : ∀ k, k ≠ i → k ≠ j → mI τ4 105 k = mI τ2 105 k := fun k a b => by
      show mI (wI (wI τ2 105 j _) 105 i _) 105 k = _
      rw [mI_w, if_neg (fun h => a h.2), mI_w, if_neg (fun h => b h.2)]
    refine ⟨fun p hp => ?_, fun p hp q hq => ?_, ?_, ?_, ?_, ?_, ?_⟩
    · show mI τ4 105 p = nI (upN (upN (hs s) j _) i _ p)
      unfold upN
      by_cases e1 : p = i
      · rw [if_pos e1, e1]
        show mI (wI τ3 105 i _) 105 i = _
        rw [mI_w, if_pos ⟨rfl, rfl⟩]
      · rw [if_neg e1]
        by_cases e2 : p = j
        · rw [if_pos e2, e2]
          show mI (wI (wI τ2 105 j _) 105 i _) 105 j = _
          rw [mI_w, if_neg (fun h => hij h.2.symm), mI_w, if_pos ⟨rfl, rfl⟩]
        · rw [if_neg e2, x4 p e1 e2, x2 p (by omega) (by omega)]
          exact c1 p hp
    · rw [x4 _ (by omega) (by omega)]
      show mI (wI (wI σ 105 44 _) 105 (6 + 6 * i + j) _) 105 (6 + 6 * p + q) = rM (upN (rg s) i (upN (rg s i) j (some (hr s + 1))) p q)
      unfold upN
      by_cases e1 : p = i
      · rw [if_pos e1]
        by_cases e2 : q = j
        · rw [mI_w, if_pos ⟨rfl, by omega⟩, if_pos e2]
          rfl
        · rw [mI_w, if_neg (by omega), mI_w, if_neg (by omega), if_neg e2, ← e1]
          exact c2 p hp q hq
      · rw [mI_w, if_neg (by omega), mI_w, if_neg (by omega), if_neg e1]
        exact c2 p hp q hq
    · rw [x4 _ (by omega) (by omega), x2 _ (by omega) (by omega)]; exact c3
    · rw [x4 _ (by omega) (by omega), x2 _ (by omega) (by omega)]; exact c4
    · rw [x4 _ (by omega) (by omega)]
      show mI (wI (wI σ 105 44 _) 105 (6 + 6 * i + j) _) 105 44 = _
      rw [mI_w, if_neg (by omega), mI_w, if_pos ⟨rfl, rfl⟩]
      rfl
    · rw [x4 _ (by omega) (by omega), x2 _ (by omega) (by omega)]; exact c6
    · rw [x4 _ (by omega) (by omega), x2 _ (by omega) (by omega)]; exact c7
end REF
