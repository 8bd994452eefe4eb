/-! THE TEXT: the class's answer city -/
section CLASS
variable {σ : xM} {C : Cty} {s : Sta} {f : Nat → Int32} {n N : Nat} {ps im : Nat → Sta} {na ni : Nat}
/-- State.begin -/
theorem f46N (hS : Sh σ) (hC : cC σ 15 C) (hO : OkC C) : ∃ τ, f46 26 15 σ = some τ ∧ Upd (Pst 26) σ τ ∧ cS τ 26 (pe C) (told C) := by
  have hp6 := hO.1
  have u1 : Upd (Pst 26) σ (wI σ 26 0 (nI (hr0 C))) := Upd.refl.wI (Pst_0 26 0)
  have u2 := u1.wI (a := 26) (k := 1) (x := 0) (Pst_0 26 1)
  have u3 := u2.wI (a := 26) (k := 2) (x := 0) (Pst_0 26 2)
  have u4 := u3.wI (a := 26) (k := 3) (x := 0) (Pst_0 26 3)
  have u5 := u4.wI (a := 26) (k := 4) (x := nI (2 ^ pe C - 1)) (Pst_0 26 4)
  have S1 := u1.sh hS
  have S2 := u2.sh hS
  have S3 := u3.sh hS
  have S4 := u4.sh hS
  have S5 := u5.sh hS
  have e152 : ∀ τ, Upd (Pst 26) σ τ → mI τ 15 2 = nI (pe C) := fun τ hu => (hu.2.1 15 2 (Pst_no 2 ⟨by omega, by omega, by omega⟩)).trans hC.1.2.2.1
  have e0 : mI (wI (wI (wI (wI (wI σ 26 0 (nI (hr0 C))) 26 1 0) 26 2 0) 26 3 0) 26 4 (nI (2 ^ pe C - 1))) 26 0 = nI (hr0 C) := by
    iterate 4 rw [mI_w, if_neg (by omega)]
    rw [mI_w, if_pos ⟨rfl, rfl⟩]
  have e1 : mI (wI (wI (wI (wI (wI σ 26 0 (nI (hr0 C))) 26 1 0) 26 2 0) 26 3 0) 26 4 (nI (2 ^ pe C - 1))) 26 1 = 0 := by
    iterate 3 rw [mI_w, if_neg (by omega)]
    rw [mI_w, if_pos ⟨rfl, rfl⟩]
  have e2 : mI (wI (wI (wI (wI (wI σ 26 0 (nI (hr0 C))) 26 1 0) 26 2 0) 26 3 0) 26 4 (nI (2 ^ pe C - 1))) 26 2 = 0 := by
    iterate 2 rw [mI_w, if_neg (by omega)]
    rw [mI_w, if_pos ⟨rfl, rfl⟩]
  have e3 : mI (wI (wI (wI (wI (wI σ 26 0 (nI (hr0 C))) 26 1 0) 26 2 0) 26 3 0) 26 4 (nI (2 ^ pe C - 1))) 26 3 = 0 := by
    rw [mI_w, if_neg (by omega), mI_w, if_pos ⟨rfl, rfl⟩]
  have e4 : mI (wI (wI (wI (wI (wI σ 26 0 (nI (hr0 C))) 26 1 0) 26 2 0) 26 3 0) 26 4 (nI (2 ^ pe C - 1))) 26 4 = nI (2 ^ pe C - 1) := by
    rw [mI_w, if_pos ⟨rfl, rfl⟩]
  unfold f46
  simp only [acC hS, Option.bind_some, hC.1.1]
  simp only [acC S1, Option.bind_some]
  simp only [acC S2, Option.bind_some]
  simp only [acC S3, Option.bind_some]
  simp only [acC S4, Option.bind_some, f3, e152 _ u4, evN _ hp6]
  generalize wI (wI (wI (wI (wI σ 26 0 (nI (hr0 C))) 26 1 0) 26 2 0) 26 3 0) 26 4 (nI (2 ^ pe C - 1)) = τ at u5 S5 e0 e1 e2 e3 e4
  have c1 := cpN (a := 27) (b := 17) (n := 6) (sh_a S5 (by decide) rfl rfl) (sh_a S5 (by decide) rfl rfl) (by decide)
  have u6 : Upd (Pst 26) σ (wA τ 27 (va_cpy (mI τ 17) (mI τ 27) 0 0 6)) := u5.wA (Pst_1 26)
  have S6 := u6.sh hS
  have c2 := cpN (a := 28) (b := 21) (n := 36) (sh_a S6 (by decide) rfl rfl) (sh_a S6 (by decide) rfl rfl) (by decide)
  simp only [acC S5, Option.bind_some]
  rw [show (6 : Int32) = nI 6 from rfl, c1, Option.bind_some]
  have f26 : ∀ k, mI (wA τ 27 (va_cpy (mI τ 17) (mI τ 27) 0 0 6)) 26 k = mI τ 26 k := fun k => by rw [mI_wA, if_neg (by omega)]
  have f27 : ∀ k, k < 6 → mI (wA τ 27 (va_cpy (mI τ 17) (mI τ 27) 0 0 6)) 27 k = mI σ 17 k := fun k hk => by
    rw [mI_wA, if_pos rfl, pk_cpy_in (by omega) (by omega), Nat.sub_zero, Nat.zero_add, u5.2.1 17 k (Pst_no k ⟨by omega, by omega, by omega⟩)]
  generalize wA τ 27 (va_cpy (mI τ 17) (mI τ 27) 0 0 6) = υ at u6 S6 c2 f26 f27
  simp only [acC S6, Option.bind_some]
  rw [show (36 : Int32) = nI 36 from rfl, c2, Option.bind_some]
  have g26 : ∀ k, mI (wA υ 28 (va_cpy (mI υ 21) (mI υ 28) 0 0 36)) 26 k = mI τ 26 k := fun k => by rw [mI_wA, if_neg (by omega), f26]
  refine ⟨_, rfl, u6.wA (Pst_2 26), fun p hp => ?_, fun p hp q hq => ?_, ?_, ?_, ?_, ?_, ?_⟩
  · rw [mI_wA, if_neg (by omega), f27 p (by omega)]
    exact (hC.2.1 p hp).2.1
  · rw [mI_wA, if_pos rfl, pk_cpy_in (by omega) (by omega), Nat.sub_zero, Nat.zero_add, u6.2.1 21 _ (Pst_no _ ⟨by omega, by omega, by omega⟩)]
    exact hC.2.2.2.1 p hp q hq
  · rw [g26]; exact e4
  · rw [g26]; exact e3
  · rw [g26]; exact e0
  · rw [g26]; exact e2
  · rw [g26]; exact e1
/-- the places that reading a text writes -/
def Prt : Nat → Nat → Bool := fun a k => Prd a k || (Nat.beq a 1 && (Nat.beq k 0 || Nat.beq k 5))
theorem rt_rd {τ : xM} (h : Upd Prd σ τ) : Upd Prt σ τ := h.mono (fun a k hq => by
  unfold Prt at hq
  rw [Bool.or_eq_false_iff] at hq
  exact hq.1)
theorem rd_cl {τ : xM} (h : Upd Pcl σ τ) : Upd Prd σ τ := h.mono (fun a k hq => by
  unfold Prd at hq
  simp only [Bool.or_eq_false_iff] at hq
  have h1 : ¬ (2 ≤ a ∧ a ≤ 12) := fun h => by
    have h2 := hq.2.1
    rw [Nat.ble_eq.mpr h.1, Nat.ble_eq.mpr h.2] at h2
    cases h2
  unfold Pcl
  rw [beqF (show a ≠ 2 by omega), beqF (show a ≠ 6 by omega), beqF (show a ≠ 7 by omega), beqF (show a ≠ 8 by omega)]
  rfl)
/-- readCity -/
theorem f24N (hS : Sh σ) (ht : cTp σ n f) (hN : N ≤ n) : match rTxt f N with
    | .inl x => ∃ τ, f24 1 (nI N) σ = some (nI x.1, τ) ∧ Upd Prt σ τ ∧ cFl τ x ∧ mI τ 1 0 = 0
    | .inr D => ∃ τ, f24 1 (nI N) σ = some (0, τ) ∧ Upd Prt σ τ ∧ cC τ 2 (dC D) ∧ (∀ i, i < 36 → mI τ 9 i = nI (wyF (dC D) i)) ∧ mI τ 1 0 = 0 := by
  obtain ⟨h1, h2, h3⟩ := ht
  have u1 : Upd Prt σ (wI (wI σ 1 5 (nI N)) 1 0 0) := (Upd.refl.wI rfl).wI rfl
  have S0 : Sh (wI σ 1 5 (nI N)) := hS
  have S1 := u1.sh hS
  obtain ⟨τ, t1, t2, t3⟩ := f1N (σ := wI (wI σ 1 5 (nI N)) 1 0 0) S1
  have u2 := u1.trans (rt_rd (rd_cl t2))
  have S2 := u2.sh hS
  have S3 : Sh (wI τ 1 8 0) := S2
  have S4 : Sh (wI (wI τ 1 8 0) 1 3 0) := S2
  have S5 : Sh (wI (wI (wI τ 1 8 0) 1 3 0) 1 1 0) := S2
  have u3 : Upd Prt σ (wI (wI (wI (wI τ 1 8 0) 1 3 0) 1 1 0) 1 11 0) := (((u2.wI rfl).wI rfl).wI rfl).wI rfl
  have hmin : (if nI n < nI N then nI n else nI N) = nI N := by rw [if_neg (nI_nlt hN (by omega))]
  have e0 : f24 1 (nI N) σ = f24_48 1100 1 1 (nI 0) (wI (wI (wI (wI τ 1 8 0) 1 3 0) 1 1 0) 1 11 0) := by
    unfold f24
    simp only [acR hS, Option.bind_some, h2, hmin]
    simp only [acR S0, Option.bind_some]
    simp only [acR S1, Option.bind_some, t1]
    simp only [acR S2, Option.bind_some]
    simp only [acR S3, Option.bind_some]
    simp only [acR S4, Option.bind_some]
    simp only [acR S5, Option.bind_some, true_or]
    rw [nI_0]
  have hot : ∀ a k, a ≠ 1 → mI (wI (wI (wI (wI τ 1 8 0) 1 3 0) 1 1 0) 1 11 0) a k = mI τ a k := fun a k ha => by
    iterate 4 rw [mI_w, if_neg (fun h => ha h.1)]
  have hR : cRd (wI (wI (wI (wI τ 1 8 0) 1 3 0) 1 1 0) 1 11 0) f N 0 D0 := by
    refine ⟨⟨S2, by omega, ?_, fun i hi => ?_⟩, by omega, ?_, ?_, ?_, ?_, fun p hp => ?_⟩
    · iterate 4 rw [mI_w, if_neg (by omega)]
      rw [t2.2.1 1 5 rfl, mI_w, if_neg (by omega), mI_w, if_pos ⟨rfl, rfl⟩]
    · rw [hot 13 i (by omega), t2.2.1 13 i rfl, mI_w, if_neg (by omega), mI_w, if_neg (by omega)]
      exact h3 i (by omega)
    · iterate 3 rw [mI_w, if_neg (by omega)]
      rw [mI_w, if_pos ⟨rfl, rfl⟩]
      rfl
    · iterate 2 rw [mI_w, if_neg (by omega)]
      rw [mI_w, if_pos ⟨rfl, rfl⟩]
    · rw [mI_w, if_pos ⟨rfl, rfl⟩]
      rfl
    · exact cC_upd (P := fun a _ => Nat.beq a 1) ((((Upd.refl.wI rfl).wI rfl).wI rfl).wI rfl) (fun i k _ => beqF (by omega)) t3
    · have hp : p < 0 := hp
      omega
  have e10 : mI (wI (wI (wI (wI τ 1 8 0) 1 3 0) 1 1 0) 1 11 0) 1 0 = 0 := by
    iterate 4 rw [mI_w, if_neg (by omega)]
    rw [t2.2.1 1 0 rfl, mI_w, if_pos ⟨rfl, rfl⟩]
  have main := f24_48N (f := f) (N := N) (N + 1) 1100 0 D0 0 _ hR D0_ok (by omega) (by omega) (by omega)
  unfold rTxt
  rw [e0]
  generalize wI (wI (wI (wI τ 1 8 0) 1 3 0) 1 1 0) 1 11 0 = ω at u3 main e10
  cases er : rAll f N (N + 1) D0 0 with
  | inl x =>
    rw [er] at main
    obtain ⟨ψ, p1, p2, p3⟩ := main
    exact ⟨ψ, p1, u3.trans (rt_rd p2), p3, (p2.2.1 1 0 rfl).trans e10⟩
  | inr D =>
    rw [er] at main
    obtain ⟨ψ, p1, p2, p3, p4⟩ := main
    exact ⟨ψ, p1, u3.trans (rt_rd p2), p3, p4, (p2.2.1 1 0 rfl).trans e10⟩
/-- what a call of city does: refused, a fault, a city -/
def okT (n : Nat) (x : Int32) : Bool := !decide (x < 0 ∨ nI n < x)
def Pci : Nat → Nat → Bool := fun a k => Prt a k || (Nat.beq a 0 && (Nat.beq k 8 || Nat.beq k 9))
theorem ci_rt {τ : xM} (h : Upd Prt σ τ) : Upd Pci σ τ := h.mono (fun a k hq => by
  unfold Pci at hq
  rw [Bool.or_eq_false_iff] at hq
  exact hq.1)
theorem c65N (hS : Sh σ) (ht : cTp σ n f) {x : Int32} (hx : okT n x = false) : f65 0 x σ = some (-1, wI σ 0 8 2) := by
  unfold okT at hx
  rw [Bool.not_eq_false', decide_eq_true_eq] at hx
  have h21 : f65_16 0 x 0 σ = some (-1, wI σ 0 8 2) := by
    unfold f65_16 f65_21
    simp only [acC hS, Option.bind_some, f114_eq hS]
    rfl
  unfold f65
  by_cases e1 : x < 0
  · rw [if_pos e1, h21]
  · rw [if_neg e1]
    simp only [acC hS, acR hS, Option.bind_some, ht.2.1]
    rw [if_neg (Int32.not_le.mpr (hx.resolve_left e1)), h21]
theorem okT_of {x : Int32} (hn : n ≤ 900) (hx : okT n x = true) : ∃ N, N ≤ n ∧ x = nI N := by
  obtain ⟨k, a, b, e⟩ := okN_of (x := x) (lo_ := 0) (hi := n) (by decide) (by omega) (by
    unfold okT at hx
    rw [Bool.not_eq_true', decide_eq_false_iff_not] at hx
    show (!decide (x < 0 ∨ nI n < x)) = true
    rw [decide_eq_false hx]
    rfl)
  exact ⟨k, b, e⟩
theorem c65Y (hS : Sh σ) (ht : cTp σ n f) (hN : N ≤ n) (hnx : ∃ nx, nx < 16 ∧ mI σ 32 2 = nI nx) : match rTxt f N with
    | .inl x => ∃ τ, f65 0 (nI N) σ = some (-1, τ) ∧ Upd Pci σ τ ∧ mI τ 0 8 = 4 ∧ mI τ 0 9 = nI x.1 ∧ mI τ 1 1 = nI x.2 ∧ mI τ 1 0 = 0
    | .inr D => ∃ τ, f65 0 (nI N) σ = some (nI (pe (dC D)), τ) ∧ (∀ a k, 102 ≤ a → mI τ a k = mI σ a k ∧ mJ τ a k = mJ σ a k) ∧ (mK τ = mK σ ∧ mL τ = mL σ ∧ mR τ = mR σ ∧ mN τ = mN σ ∧ mU τ = mU σ) ∧ QC τ (dC D) (told (dC D)) ∧ cP τ (pe (dC D)) ps 0 ∧ cI τ (pe (dC D)) im 0 ∧ mI τ 0 8 = 0 ∧ mI τ 0 9 = 0 ∧ mI τ 1 0 = 0 := by
  have hn9 := ht.1
  have hS1 : Sh (wI σ 0 8 0) := hS
  have ht1 : cTp (wI σ 0 8 0) n f := ⟨ht.1, by rw [mI_w, if_neg (by omega)]; exact ht.2.1, fun i hi => by rw [mI_w, if_neg (by omega)]; exact ht.2.2 i hi⟩
  have main := f24N hS1 ht1 hN
  have okr := rAll_ok (f := f) (N := N) (N + 1) D0 0 D0_ok (by omega) (by omega)
  have e0 : f65 0 (nI N) σ = (f24 1 (nI N) (wI σ 0 8 0)).bind fun y3 => (pI y3.2 0 7 9 y3.1).bind fun σ4 => (gI σ4 0 7 9).bind fun v5 => if v5 = 0 then f65_54 0 0 0 σ4 else f65_54 0 4 0 σ4 := by
    unfold f65
    rw [if_neg (nI_pos (by omega))]
    simp only [acC hS, acR hS, Option.bind_some, ht.2.1]
    rw [if_pos (nI_le hN (by omega))]
    unfold f65_21
    simp only [acC hS, Option.bind_some, f114_eq hS]
    rw [if_pos (by decide)]
    simp only [acC hS1, acR hS1, Option.bind_some]
  rw [e0]
  cases er : rTxt f N with
  | inl x =>
    rw [er] at main
    obtain ⟨τ, t1, t2, t3, t4⟩ := main
    have hfl := okr.1 x er
    have hSt := t2.sh hS1
    have hx0 : ¬ nI x.1 = 0 := nI_ne0 (by have := hfl.1; omega) (by have := hfl.2; omega)
    have hS2 : Sh (wI τ 0 9 (nI x.1)) := hSt
    have e9 : mI (wI τ 0 9 (nI x.1)) 0 9 = nI x.1 := by rw [mI_w, if_pos ⟨rfl, rfl⟩]
    rw [t1, Option.bind_some]
    simp only [acC hSt, Option.bind_some, acC hS2, e9]
    rw [if_neg hx0]
    unfold f65_54
    simp only [acC hS2, Option.bind_some, f114_eq hS2]
    rw [if_neg (by decide)]
    refine ⟨_, rfl, ?_, ?_, ?_, ?_, ?_⟩
    · exact Upd.wI (Upd.wI (Upd.trans (Upd.wI Upd.refl rfl) (ci_rt t2)) rfl) rfl
    · rw [mI_w, if_pos ⟨rfl, rfl⟩]
    · rw [mI_w, if_neg (by omega)]; exact e9
    · rw [mI_w, if_neg (by omega), mI_w, if_neg (by omega)]; exact t3.2
    · rw [mI_w, if_neg (by omega), mI_w, if_neg (by omega)]; exact t4
  | inr D =>
    rw [er] at main
    obtain ⟨τ, t1, t2, t3, t4, t5⟩ := main
    obtain ⟨hO, hp0⟩ := okr.2 D er
    have hSt := t2.sh hS1
    have hS2 : Sh (wI τ 0 9 0) := hSt
    have e9 : mI (wI τ 0 9 0) 0 9 = 0 := by rw [mI_w, if_pos ⟨rfl, rfl⟩]
    rw [t1, Option.bind_some]
    simp only [acC hSt, Option.bind_some, acC hS2, e9]
    rw [if_pos trivial]
    unfold f65_54
    simp only [acC hS2, Option.bind_some, f114_eq hS2]
    rw [if_pos (by decide)]
    have hS3 : Sh (wI (wI τ 0 9 0) 0 8 0) := hSt
    have u3 : Upd Pci σ (wI (wI τ 0 9 0) 0 8 0) := Upd.wI (Upd.wI (Upd.trans (Upd.wI Upd.refl rfl) (ci_rt t2)) rfl) rfl
    have hC3 : cC (wI (wI τ 0 9 0) 0 8 0) 2 (dC D) := cC_upd (P := fun a _ => Nat.beq a 0) ((Upd.refl.wI rfl).wI rfl) (fun i k _ => beqF (by omega)) t3
    have hw3 : ∀ i, i < 36 → mI (wI (wI τ 0 9 0) 0 8 0) 9 i = nI (wyF (dC D) i) := fun i hi => by
      rw [mI_w, if_neg (by omega), mI_w, if_neg (by omega)]; exact t4 i hi
    have e103 : mI (wI (wI τ 0 9 0) 0 8 0) 1 0 = 0 := by rw [mI_w, if_neg (by omega), mI_w, if_neg (by omega)]; exact t5
    have e083 : mI (wI (wI τ 0 9 0) 0 8 0) 0 8 = 0 := by rw [mI_w, if_pos ⟨rfl, rfl⟩]
    have e093 : mI (wI (wI τ 0 9 0) 0 8 0) 0 9 = 0 := by rw [mI_w, if_neg (by omega)]; exact e9
    simp only [acC hS3, acR hS3, Option.bind_some]
    generalize wI (wI τ 0 9 0) 0 8 0 = ω at hS3 u3 hC3 hw3 e103 e083 e093
    obtain ⟨α, a1, a2, a3, a4⟩ := f2N hS3 hC3 hO.1 hw3
    have hSa := a2.sh hS3
    obtain ⟨β, b1, b2, b3⟩ := f46N hSa a3 hO.1
    have hSb := b2.sh hSa
    have hSc : Sh (wI β 32 0 0) := hSb
    have hSd : Sh (wI (wI β 32 0 0) 32 1 0) := hSb
    have cCb : cC β 15 (dC D) := cC_upd b2 (fun i k _ => Pst_no k ⟨by omega, by omega, by omega⟩) a3
    have uf : Upd (fun a _ => Nat.beq a 32) β (wI (wI β 32 0 0) 32 1 0) := (Upd.refl.wI rfl).wI rfl
    have cCd : cC (wI (wI β 32 0 0) 32 1 0) 15 (dC D) := cC_upd uf (fun i k _ => beqF (by omega)) cCb
    rw [a1, Option.bind_some]
    simp only [acC hSa, Option.bind_some, b1]
    unfold f17
    simp only [acC hSb, acW hSb, Option.bind_some, acW hSc, acC hSd, cCd.1.2.2.1]
    have e0b : ∀ a k, a < 15 → mI (wI (wI β 32 0 0) 32 1 0) a k = mI ω a k := fun a k ha => by
      rw [uf.2.1 a k (beqF (by omega)), b2.2.1 a k (Pst_no k ⟨by omega, by omega, by omega⟩), a2.2.1 a k (Pcc_no k (by omega))]
    refine ⟨_, rfl, fun a k ha => ⟨?_, ?_⟩, ?_, ⟨hSd, cCd.1.2.2.1, ?_, told_ok hO.1, fun _ => ⟨cCd, hO.1, fun i hi => ?_⟩⟩, ⟨by omega, ?_, ?_⟩, ⟨by omega, ?_, fun i hi => by omega⟩, ?_, ?_, ?_⟩
    · rw [uf.2.1 a k (beqF (by omega)), b2.2.1 a k (Pst_no k ⟨by omega, by omega, by omega⟩), a2.2.1 a k (Pcc_no k (by omega)), u3.2.1 a k ?_]
      unfold Pci Prt Prd
      rw [beqF (show a ≠ 1 by omega), beqF (show a ≠ 0 by omega), beqF (show a ≠ 14 by omega)]
      have : Nat.ble a 12 = false := by rw [Bool.eq_false_iff]; intro h; rw [Nat.ble_eq] at h; omega
      rw [this]
      simp
    · rw [uf.2.2 a k (beqF (by omega)), b2.2.2 a k (Pst_no k ⟨by omega, by omega, by omega⟩), a2.2.2 a k (Pcc_no k (by omega)), u3.2.2 a k ?_]
      unfold Pci Prt Prd
      rw [beqF (show a ≠ 1 by omega), beqF (show a ≠ 0 by omega), beqF (show a ≠ 14 by omega)]
      have : Nat.ble a 12 = false := by rw [Bool.eq_false_iff]; intro h; rw [Nat.ble_eq] at h; omega
      rw [this]
      simp
    · obtain ⟨x1, x2, x3, x4, x5⟩ := u3.1
      obtain ⟨y1, y2, y3, y4, y5⟩ := a2.1
      obtain ⟨z1, z2, z3, z4, z5⟩ := b2.1
      obtain ⟨w1, w2, w3, w4, w5⟩ := uf.1
      exact ⟨w1.trans (z1.trans (y1.trans x1)), w2.trans (z2.trans (y2.trans x2)), w3.trans (z3.trans (y3.trans x3)), w4.trans (z4.trans (y4.trans x4)), w5.trans (z5.trans (y5.trans x5))⟩
    · exact cS_upd uf (fun k => beqF (by omega)) (fun k => beqF (by omega)) (fun k => beqF (by omega)) b3
    · rw [uf.2.1 22 i (beqF (by omega)), b2.2.1 22 i (Pst_no i ⟨by omega, by omega, by omega⟩)]; exact a4 i hi
    · rw [mI_w, if_neg (by omega), mI_w, if_pos ⟨rfl, rfl⟩]; rfl
    · obtain ⟨nx, n1, n2⟩ := hnx
      refine ⟨nx, n1, ?_, fun i hi => by omega⟩
      rw [mI_w, if_neg (by omega), mI_w, if_neg (by omega), b2.2.1 32 2 (Pst_no 2 ⟨by omega, by omega, by omega⟩), a2.2.1 32 2 (Pcc_no 2 (by omega)), u3.2.1 32 2 rfl]
      exact n2
    · rw [mI_w, if_pos ⟨rfl, rfl⟩]; rfl
    · rw [e0b 0 8 (by omega)]; exact e083
    · rw [e0b 0 9 (by omega)]; exact e093
    · rw [e0b 1 0 (by omega)]; exact e103
end CLASS
