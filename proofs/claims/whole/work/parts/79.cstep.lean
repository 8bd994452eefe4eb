/-! THE TEXT: the class's step -/
def rdB (σ : xM) (f : Nat → Int32) (N : Nat) : Prop := Sh σ ∧ N ≤ 900 ∧ mI σ 1 5 = nI N ∧ ∀ i, i < N → mI σ 13 i = f i
def Psp : Nat → Nat → Bool := fun a k => Nat.beq a 1 && [6, 7, 8, 9, 10].any (fun b => Nat.beq k b)
theorem rdB_upd {P : Nat → Nat → Bool} {σ τ : xM} {f : Nat → Int32} {N : Nat} (hu : Upd P σ τ) (h1 : P 1 5 = false) (h2 : ∀ k, P 13 k = false) (h : rdB σ f N) : rdB τ f N := ⟨hu.sh h.1, h.2.1, (hu.2.1 1 5 h1).trans h.2.2.1, fun i hi => (hu.2.1 13 i (h2 i)).trans (h.2.2.2 i hi)⟩
theorem shl8 {w b : Nat} (hw : w < 2 ^ 55) (hb : b < 256) : (lN w <<< ((8 : Int32).toInt64 &&& 63)) ||| (nI b).toInt64 = lN (w * 256 + b) := by
  rw [nI_l (show b < 2 ^ 31 by omega), show (8 : Int32).toInt64 &&& 63 = 8 from by decide]
  apply Int64.toBitVec_inj.mp
  apply BitVec.eq_of_toNat_eq
  have e1 : (lN w).toBitVec.toNat = w := by
    show (BitVec.ofNat 64 w).toNat = w
    rw [BitVec.toNat_ofNat]
    exact Nat.mod_eq_of_lt (by omega)
  have e2 : (lN b).toBitVec.toNat = b := by
    show (BitVec.ofNat 64 b).toNat = b
    rw [BitVec.toNat_ofNat]
    exact Nat.mod_eq_of_lt (by omega)
  have e3 : (lN (w * 256 + b)).toBitVec.toNat = w * 256 + b := by
    show (BitVec.ofNat 64 (w * 256 + b)).toNat = _
    rw [BitVec.toNat_ofNat]
    exact Nat.mod_eq_of_lt (by omega)
  rw [Int64.toBitVec_or, Int64.toBitVec_shiftLeft, BitVec.toNat_or, e2, e3, show ((8 : Int64).toBitVec.smod 64) = 8#64 from by decide, BitVec.shiftLeft_eq', BitVec.toNat_shiftLeft, e1, show (8#64).toNat = 8 from rfl, Nat.mod_eq_of_lt (by rw [Nat.shiftLeft_eq]; omega), ← Nat.shiftLeft_add_eq_or_of_lt (show b < 2 ^ 8 from hb), Nat.shiftLeft_eq]
theorem subN {a b : Nat} (h : b ≤ a) : nI a - nI b = nI (a - b) := pk_sub h
section CLASS
variable {σ : xM} {f : Nat → Int32} {N : Nat}
/-- stepWord -/
theorem f27N (hB : rdB σ f N) {st : Nat} (hst : st ≤ N) (h7 : mI σ 1 7 = nI st) (h8 : mI σ 1 8 = nI st) : ∃ τ, f27 1 σ = some τ ∧ Upd Psp σ τ ∧ mI τ 1 7 = nI st ∧ mI τ 1 8 = nI (run (cLt f) N st) ∧ mI τ 1 6 = (if run (cLt f) N st - st ≤ 8 then 1 else 4) ∧ (run (cLt f) N st - st ≤ 8 → mJ τ 1 10 = lN (wdC (lt f st (run (cLt f) N st - st)))) := by
  obtain ⟨b1, b2, b3⟩ := run_b (c := cLt f) hst
  have hN := hB.2.1
  have key : ∀ (k m j : Nat) (τ : xM), st + j + k = run (cLt f) N st → k + 1 ≤ m → run (cLt f) N (st + j) = run (cLt f) N st → Upd Psp σ τ → mI τ 1 7 = nI st → mI τ 1 8 = nI (st + j) → (j ≤ 8 → mJ τ 1 10 = lN (wdC (lt f st j))) → ∃ τ', f27_5 m 1 τ = f27_79 1 τ' ∧ Upd Psp σ τ' ∧ mI τ' 1 7 = nI st ∧ mI τ' 1 8 = nI (run (cLt f) N st) ∧ (run (cLt f) N st - st ≤ 8 → mJ τ' 1 10 = lN (wdC (lt f st (run (cLt f) N st - st)))) := by
    intro k
    induction k with
    | zero =>
      intro m j τ hj hm hrun hu g7 g8 gw
      obtain ⟨m, rfl⟩ : ∃ i, m = i + 1 := ⟨m - 1, by omega⟩
      have hB' := rdB_upd hu rfl (fun _ => rfl) hB
      have hj' : j = run (cLt f) N st - st := by omega
      refine ⟨τ, ?_, hu, g7, by rw [g8]; congr 1, fun h => by rw [← hj']; exact gw (by omega)⟩
      have hno : ¬ (st + j < N ∧ cLt f (st + j) = true) := fun h => by
        have h1 := run_step (c := cLt f) h.1 h.2
        have h2 := (run_b (c := cLt f) (show st + j + 1 ≤ N by omega)).1
        omega
      rw [f27_5]
      simp only [acR hB'.1, Option.bind_some, g8, hB'.2.2.1]
      by_cases e1 : N ≤ st + j
      · rw [if_pos (nI_le e1 (by omega))]
      · rw [if_neg (nI_ge (by omega) (by omega))]
        simp only [acR hB'.1, Option.bind_some, show st + j < 900 by omega, hB'.2.2.2 _ (show st + j < N by omega)]
        have e2 : f (st + j) < 97 ∨ 122 < f (st + j) := by
          refine Classical.byContradiction (fun h => hno ⟨by omega, ?_⟩)
          unfold cLt
          rw [decide_eq_false h]
          rfl
        by_cases e3 : f (st + j) < 97
        · rw [if_pos e3]
        · rw [if_neg e3, if_pos (e2.resolve_left e3)]
    | succ k ih =>
      intro m j τ hj hm hrun hu g7 g8 gw
      obtain ⟨m, rfl⟩ : ∃ i, m = i + 1 := ⟨m - 1, by omega⟩
      have hB' := rdB_upd hu rfl (fun _ => rfl) hB
      have hc := b3 (st + j) (by omega) (by omega)
      have hlt : st + j < N := by omega
      have hc' := hc
      unfold cLt at hc'
      rw [Bool.not_eq_true', decide_eq_false_iff_not] at hc'
      obtain ⟨b, c1, c2, c3⟩ := lt_n hc'
      rw [f27_5]
      simp only [acR hB'.1, Option.bind_some, g8, hB'.2.2.1, show st + j < 900 by omega, hB'.2.2.2 _ hlt]
      rw [if_neg (nI_ge hlt (by omega)), if_neg (fun h => hc' (Or.inl h)), if_neg (fun h => hc' (Or.inr h))]
      generalize hv : (mJ τ 1 10 <<< ((8 : Int32).toInt64 &&& 63) ||| (f (st + j)).toInt64) = v
      have hS2 : Sh (wJ τ 1 10 v) := hB'.1
      have e8 : mI (wJ τ 1 10 v) 1 8 = nI (st + j) := g8
      simp only [acR hS2, Option.bind_some, e8, nI_1]
      refine ih m (j + 1) (wI (wJ τ 1 10 v) 1 8 (nI (st + j + 1))) (by omega) (by omega) (by rw [← hrun, run_step hlt hc]; rfl) ((hu.wJ rfl).wI rfl) (by rw [mI_w, if_neg (by omega)]; exact g7) (by rw [mI_w, if_pos ⟨rfl, rfl⟩]; rfl) (fun h8 => ?_)
      have hok := lt_ok (f := f) (st := st) j (fun i h1 h2 => b3 i h1 (by omega))
      have hwl := (wdC_lt _ hok.2).2
      rw [hok.1] at hwl
      have hp : 256 ^ j ≤ 256 ^ 7 := Nat.pow_le_pow_right (by decide) (by omega)
      have h56 : (256 : Nat) ^ 7 = 2 ^ 56 := by decide
      rw [mJ_w, mJ_wJ, if_pos ⟨rfl, rfl⟩, ← hv, gw (by omega), c3, lt, wdC, c3, show pN (nI b) = b from nI_clamp (by omega), show b - 96 + 96 = b by omega]
      have hw55 : wdC (lt f st j) < 2 ^ 55 := by
        have h1 := (wdC_lt _ hok.2).1
        rw [hok.1] at h1
        have hp2 : 256 ^ (j - 1) ≤ 256 ^ 6 := Nat.pow_le_pow_right (by decide) (by omega)
        have h48 : 128 * (256 : Nat) ^ 6 = 2 ^ 55 := by decide
        have := Nat.mul_le_mul_left 128 hp2
        omega
      exact shl8 hw55 (by omega)
  have hS0 : Sh (wJ σ 1 10 0) := hB.1
  obtain ⟨τ, t1, t2, t3, t4, t5⟩ := key (run (cLt f) N st - st) 1100 0 (wJ σ 1 10 0) (by omega) (by omega) rfl (Upd.refl.wJ rfl) h7 h8 (fun _ => by rw [mJ_wJ, if_pos ⟨rfl, rfl⟩]; rfl)
  have hB' := rdB_upd t2 rfl (fun _ => rfl) hB
  refine ⟨wI τ 1 6 (if run (cLt f) N st - st ≤ 8 then 1 else 4), ?_, t2.wI rfl, by rw [mI_w, if_neg (by omega)]; exact t3, by rw [mI_w, if_neg (by omega)]; exact t4, by rw [mI_w, if_pos ⟨rfl, rfl⟩], fun h => t5 h⟩
  unfold f27
  simp only [acR hB.1, Option.bind_some]
  rw [t1]
  unfold f27_79 f27_99
  simp only [acR hB'.1, Option.bind_some, t3, t4]
  rw [subN b1]
  by_cases e : run (cLt f) N st - st ≤ 8
  · rw [if_neg (show ¬ (8 : Int32) < nI (run (cLt f) N st - st) from nI_nlt (a := 8) e (by omega)), if_pos e]
  · rw [if_pos (show (8 : Int32) < nI (run (cLt f) N st - st) from nI_lt (a := 8) (by omega) (by omega)), if_neg e]
/-- stepWhole -/
theorem f28N (hB : rdB σ f N) {st : Nat} (hst : st ≤ N) (h7 : mI σ 1 7 = nI st) (h8 : mI σ 1 8 = nI st) : ∃ τ, f28 1 σ = some τ ∧ Upd Psp σ τ ∧ mI τ 1 7 = nI st ∧ mI τ 1 8 = nI (run (cDg f) N st) ∧ mI τ 1 6 = (if st < run (cDg f) N st ∧ run (cDg f) N st - st ≤ 3 then 2 else 4) ∧ (run (cDg f) N st - st ≤ 3 → mI τ 1 9 = nI (vl f st (run (cDg f) N st - st))) := by
  obtain ⟨b1, b2, b3⟩ := run_b (c := cDg f) hst
  have hN := hB.2.1
  have key : ∀ (k m j : Nat) (τ : xM), st + j + k = run (cDg f) N st → k + 1 ≤ m → run (cDg f) N (st + j) = run (cDg f) N st → Upd Psp σ τ → mI τ 1 7 = nI st → mI τ 1 8 = nI (st + j) → mI τ 1 9 = nI (vl f st j) → ∃ τ', f28_5 m 1 τ = f28_81 1 τ' ∧ Upd Psp σ τ' ∧ mI τ' 1 7 = nI st ∧ mI τ' 1 8 = nI (run (cDg f) N st) ∧ mI τ' 1 9 = nI (vl f st (run (cDg f) N st - st)) := by
    intro k
    induction k with
    | zero =>
      intro m j τ hj hm hrun hu g7 g8 gw
      obtain ⟨m, rfl⟩ : ∃ i, m = i + 1 := ⟨m - 1, by omega⟩
      have hB' := rdB_upd hu rfl (fun _ => rfl) hB
      have hj' : j = run (cDg f) N st - st := by omega
      refine ⟨τ, ?_, hu, g7, by rw [g8]; congr 1, by rw [← hj']; exact gw⟩
      have hno : ¬ (st + j < N ∧ cDg f (st + j) = true) := fun h => by
        have h1 := run_step (c := cDg f) h.1 h.2
        have h2 := (run_b (c := cDg f) (show st + j + 1 ≤ N by omega)).1
        omega
      rw [f28_5]
      simp only [acR hB'.1, Option.bind_some, g8, hB'.2.2.1]
      by_cases e1 : N ≤ st + j
      · rw [if_pos (nI_le e1 (by omega))]
      · rw [if_neg (nI_ge (by omega) (by omega))]
        simp only [acR hB'.1, Option.bind_some, show st + j < 900 by omega, hB'.2.2.2 _ (show st + j < N by omega)]
        have e2 : f (st + j) < 48 ∨ 57 < f (st + j) := by
          refine Classical.byContradiction (fun h => hno ⟨by omega, ?_⟩)
          unfold cDg
          rw [decide_eq_false h]
          rfl
        by_cases e3 : f (st + j) < 48
        · rw [if_pos e3]
        · rw [if_neg e3, if_pos (e2.resolve_left e3)]
    | succ k ih =>
      intro m j τ hj hm hrun hu g7 g8 gw
      obtain ⟨m, rfl⟩ : ∃ i, m = i + 1 := ⟨m - 1, by omega⟩
      have hB' := rdB_upd hu rfl (fun _ => rfl) hB
      have hc := b3 (st + j) (by omega) (by omega)
      have hlt : st + j < N := by omega
      have hc' := hc
      unfold cDg at hc'
      rw [Bool.not_eq_true', decide_eq_false_iff_not] at hc'
      obtain ⟨b, c1, c2, c3⟩ := dg_n hc'
      have hval : nI (vl f st j) * 10 + f (st + j) - 48 = nI (vl f st (j + 1)) := by
        rw [c3, show (10 : Int32) = nI 10 from rfl, pk_mul, nI_add, show (48 : Int32) = nI 48 from rfl, pk_sub (by omega), vl, c3, show pN (nI b) = b from nI_clamp (by omega)]
        congr 1
        omega
      rw [f28_5]
      simp only [acR hB'.1, Option.bind_some, g8, hB'.2.2.1, show st + j < 900 by omega, hB'.2.2.2 _ hlt, gw, hval]
      rw [if_neg (nI_ge hlt (by omega)), if_neg (fun h => hc' (Or.inl h)), if_neg (fun h => hc' (Or.inr h))]
      have hS2 : Sh (wI τ 1 9 (nI (vl f st (j + 1)))) := hB'.1
      have e8 : mI (wI τ 1 9 (nI (vl f st (j + 1)))) 1 8 = nI (st + j) := by rw [mI_w, if_neg (by omega)]; exact g8
      simp only [acR hS2, Option.bind_some, e8, nI_1]
      exact ih m (j + 1) (wI (wI τ 1 9 (nI (vl f st (j + 1)))) 1 8 (nI (st + j + 1))) (by omega) (by omega) (by rw [← hrun, run_step hlt hc]; rfl) ((hu.wI rfl).wI rfl) (by rw [mI_w, if_neg (by omega), mI_w, if_neg (by omega)]; exact g7) (by rw [mI_w, if_pos ⟨rfl, rfl⟩]; rfl) (by rw [mI_w, if_neg (by omega), mI_w, if_pos ⟨rfl, rfl⟩])
  have hS0 : Sh (wI σ 1 9 0) := hB.1
  obtain ⟨τ, t1, t2, t3, t4, t5⟩ := key (run (cDg f) N st - st) 1100 0 (wI σ 1 9 0) (by omega) (by omega) rfl (Upd.refl.wI rfl) (by rw [mI_w, if_neg (by omega)]; exact h7) (by rw [mI_w, if_neg (by omega)]; exact h8) (by rw [mI_w, if_pos ⟨rfl, rfl⟩]; rfl)
  have hB' := rdB_upd t2 rfl (fun _ => rfl) hB
  refine ⟨wI τ 1 6 (if st < run (cDg f) N st ∧ run (cDg f) N st - st ≤ 3 then 2 else 4), ?_, t2.wI rfl, by rw [mI_w, if_neg (by omega)]; exact t3, by rw [mI_w, if_neg (by omega)]; exact t4, by rw [mI_w, if_pos ⟨rfl, rfl⟩], fun h => by rw [mI_w, if_neg (by omega)]; exact t5⟩
  unfold f28
  simp only [acR hB.1, Option.bind_some]
  rw [t1]
  unfold f28_81 f28_110 f28_111
  simp only [acR hB'.1, Option.bind_some, t3, t4]
  by_cases e0 : st < run (cDg f) N st
  · rw [if_neg (nI_ge e0 (by omega)), subN b1]
    by_cases e : run (cDg f) N st - st ≤ 3
    · rw [if_neg (show ¬ (3 : Int32) < nI (run (cDg f) N st - st) from nI_nlt (a := 3) e (by omega)), if_pos ⟨e0, e⟩]
    · rw [if_pos (show (3 : Int32) < nI (run (cDg f) N st - st) from nI_lt (a := 3) (by omega) (by omega)), if_neg (fun h => e h.2)]
  · rw [if_pos (nI_le (by omega) (by omega)), if_neg (fun h => e0 h.1)]
/-- the token that stands in the class's reader -/
def cTk (τ : xM) (f : Nat → Int32) (N e : Nat) : Prop := mI τ 1 7 = nI (tkS f N e) ∧ mI τ 1 8 = nI (tkE f N e) ∧ mI τ 1 6 = nI (tkK f N e) ∧ (tkK f N e = 1 → mJ τ 1 10 = lN (wdC (tkW f N e))) ∧ (tkK f N e = 2 → mI τ 1 9 = nI (tkV f N e))
/-- step -/
theorem f26N (hB : rdB σ f N) {e : Nat} (he : e ≤ N) (h8 : mI σ 1 8 = nI e) : ∃ τ, f26 1 σ = some (nI (tkK f N e), τ) ∧ Upd Psp σ τ ∧ cTk τ f N e := by
  have hN := hB.2.1
  obtain ⟨b1, b2, b3⟩ := run_b (c := cSp f) he
  have key : ∀ (k m j : Nat) (τ : xM), e + j + k = run (cSp f) N e → k + 1 ≤ m → run (cSp f) N (e + j) = run (cSp f) N e → Upd Psp σ τ → mI τ 1 7 = nI (e + j) → ∃ τ', f26_8 m 1 τ = f26_46 1 τ' ∧ Upd Psp σ τ' ∧ mI τ' 1 7 = nI (run (cSp f) N e) := by
    intro k
    induction k with
    | zero =>
      intro m j τ hj hm hrun hu g7
      obtain ⟨m, rfl⟩ : ∃ i, m = i + 1 := ⟨m - 1, by omega⟩
      have hB' := rdB_upd hu rfl (fun _ => rfl) hB
      refine ⟨τ, ?_, hu, by rw [g7]; congr 1⟩
      have hno : ¬ (e + j < N ∧ cSp f (e + j) = true) := fun h => by
        have h1 := run_step (c := cSp f) h.1 h.2
        have h2 := (run_b (c := cSp f) (show e + j + 1 ≤ N by omega)).1
        omega
      rw [f26_8]
      simp only [acR hB'.1, Option.bind_some, g7, hB'.2.2.1]
      by_cases e1 : N ≤ e + j
      · rw [if_pos (nI_le e1 (by omega))]
      · rw [if_neg (nI_ge (by omega) (by omega))]
        simp only [acR hB'.1, Option.bind_some, show e + j < 900 by omega, hB'.2.2.2 _ (show e + j < N by omega)]
        rw [if_neg (fun h => hno ⟨by omega, by unfold cSp; exact decide_eq_true h⟩)]
    | succ k ih =>
      intro m j τ hj hm hrun hu g7
      obtain ⟨m, rfl⟩ : ∃ i, m = i + 1 := ⟨m - 1, by omega⟩
      have hB' := rdB_upd hu rfl (fun _ => rfl) hB
      have hc := b3 (e + j) (by omega) (by omega)
      have hlt : e + j < N := by omega
      have hc' := hc
      unfold cSp at hc'
      rw [decide_eq_true_eq] at hc'
      rw [f26_8]
      simp only [acR hB'.1, Option.bind_some, g7, hB'.2.2.1, show e + j < 900 by omega, hB'.2.2.2 _ hlt, nI_1]
      rw [if_neg (nI_ge hlt (by omega)), if_pos hc']
      exact ih m (j + 1) (wI τ 1 7 (nI (e + j + 1))) (by omega) (by omega) (by rw [← hrun, run_step hlt hc]; rfl) (hu.wI rfl) (by rw [mI_w, if_pos ⟨rfl, rfl⟩]; rfl)
  obtain ⟨τ, t1, t2, t3⟩ := key (run (cSp f) N e - e) 1100 0 (wI σ 1 7 (nI e)) (by omega) (by omega) rfl (Upd.refl.wI rfl) (by rw [mI_w, if_pos ⟨rfl, rfl⟩]; rfl)
  have t3 : mI τ 1 7 = nI (tkS f N e) := t3
  have hs : tkS f N e ≤ N := b2
  have e0 : f26 1 σ = f26_46 1 τ := by
    unfold f26
    simp only [acR hB.1, Option.bind_some, h8]
    exact t1
  rw [e0]
  have u2 : Upd Psp σ (wI τ 1 8 (nI (tkS f N e))) := t2.wI rfl
  have hB2 := rdB_upd u2 rfl (fun _ => rfl) hB
  have hB1 := rdB_upd t2 rfl (fun _ => rfl) hB
  have g7 : mI (wI τ 1 8 (nI (tkS f N e))) 1 7 = nI (tkS f N e) := by rw [mI_w, if_neg (by omega)]; exact t3
  have g8 : mI (wI τ 1 8 (nI (tkS f N e))) 1 8 = nI (tkS f N e) := by rw [mI_w, if_pos ⟨rfl, rfl⟩]
  unfold f26_46
  simp only [acR hB1.1, Option.bind_some, t3]
  generalize wI τ 1 8 (nI (tkS f N e)) = ω at u2 hB2 g7 g8
  simp only [acR hB2.1, Option.bind_some, g7, g8, hB2.2.2.1]
  have hk := tkK
  by_cases e1 : tkS f N e < N
  · rw [if_pos (nI_lt e1 (by omega))]
    simp only [acR hB2.1, Option.bind_some, show tkS f N e < 900 by omega, hB2.2.2.2 _ e1]
    by_cases e2 : f (tkS f N e) = 59
    · have hK : tkK f N e = 3 := by unfold tkK; rw [if_neg (by omega), if_pos e2]
      have hE : tkE f N e = tkS f N e + 1 := by unfold tkE; rw [if_neg (by omega), if_pos e2]
      have hS3 : Sh (wI ω 1 8 (nI (tkS f N e + 1))) := hB2.1
      have hS4 : Sh (wI (wI ω 1 8 (nI (tkS f N e + 1))) 1 6 3) := hB2.1
      rw [if_pos e2]
      unfold f26_124
      simp only [nI_1, acR hS3, Option.bind_some, acR hS4]
      rw [mI_w, if_pos ⟨rfl, rfl⟩, hK]
      refine ⟨_, rfl, (u2.wI rfl).wI rfl, ?_, ?_, ?_, fun h => by omega, fun h => by omega⟩
      · rw [mI_w, if_neg (by omega), mI_w, if_neg (by omega)]; exact g7
      · rw [mI_w, if_neg (by omega), mI_w, if_pos ⟨rfl, rfl⟩, hE]
      · rw [mI_w, if_pos ⟨rfl, rfl⟩, hK]; rfl
    · obtain ⟨υ, v1, v2, v3, v4, v5, v6⟩ := f27N hB2 hs g7 g8
      have uυ := u2.trans v2
      have hBυ := rdB_upd uυ rfl (fun _ => rfl) hB
      rw [if_neg e2, v1, Option.bind_some]
      simp only [acR hBυ.1, Option.bind_some, v3, v4]
      cases e3 : cLt f (tkS f N e)
      · have hr : run (cLt f) N (tkS f N e) = tkS f N e := run_stop (fun h => by rw [e3] at h; cases h.2)
        rw [hr] at v4
        obtain ⟨ξ, x1, x2, x3, x4, x5, x6⟩ := f28N hBυ hs v3 v4
        have uξ := uυ.trans x2
        have hBξ := rdB_upd uξ rfl (fun _ => rfl) hB
        rw [hr, if_pos rfl, x1, Option.bind_some]
        unfold f26_124
        simp only [acR hBξ.1, Option.bind_some, x5]
        have hK : tkK f N e = if tkS f N e < run (cDg f) N (tkS f N e) ∧ run (cDg f) N (tkS f N e) - tkS f N e ≤ 3 then 2 else 4 := by
          unfold tkK
          rw [if_neg (by omega), if_neg e2, e3, if_neg (by simp)]
          cases e4 : cDg f (tkS f N e)
          · rw [if_neg (by simp), run_stop (fun h => by rw [e4] at h; cases h.2), if_neg (by omega)]
          · have h1 := run_step (c := cDg f) e1 e4
            have h2 := (run_b (c := cDg f) (show tkS f N e + 1 ≤ N by omega)).1
            rw [if_pos rfl]
            by_cases e5 : run (cDg f) N (tkS f N e) - tkS f N e ≤ 3
            · rw [if_pos e5, if_pos ⟨by omega, e5⟩]
            · rw [if_neg e5, if_neg (fun h => e5 h.2)]
        have hE : tkE f N e = run (cDg f) N (tkS f N e) := by
          unfold tkE
          rw [if_neg (by omega), if_neg e2, e3, if_neg (by simp)]
          cases e4 : cDg f (tkS f N e)
          · rw [if_neg (by simp), run_stop (fun h => by rw [e4] at h; cases h.2)]
          · rw [if_pos rfl]
        have hI : (if tkS f N e < run (cDg f) N (tkS f N e) ∧ run (cDg f) N (tkS f N e) - tkS f N e ≤ 3 then (2 : Int32) else 4) = nI (tkK f N e) := by
          rw [hK]
          split <;> rfl
        rw [hI]
        refine ⟨ξ, rfl, uξ, x3, by rw [hE]; exact x4, by rw [x5]; exact hI, fun h => ?_, fun h => ?_⟩
        · rw [hK] at h
          split at h <;> omega
        · rw [hK] at h
          split at h
          · rename_i hc
            exact x6 hc.2
          · omega
      · have h1 := run_step (c := cLt f) e1 e3
        have h2 := (run_b (c := cLt f) (show tkS f N e + 1 ≤ N by omega)).1
        have h3 := (run_b (c := cLt f) hs).2.1
        have hK : tkK f N e = if run (cLt f) N (tkS f N e) - tkS f N e ≤ 8 then 1 else 4 := by
          unfold tkK
          rw [if_neg (by omega), if_neg e2, e3, if_pos rfl]
        have hE : tkE f N e = run (cLt f) N (tkS f N e) := by
          unfold tkE
          rw [if_neg (by omega), if_neg e2, e3, if_pos rfl]
        have hI : (if run (cLt f) N (tkS f N e) - tkS f N e ≤ 8 then (1 : Int32) else 4) = nI (tkK f N e) := by
          rw [hK]
          split <;> rfl
        rw [if_neg (fun h => by
          have := (nI_eq (by omega) (by omega)).mp h
          omega)]
        unfold f26_124
        simp only [acR hBυ.1, Option.bind_some, v5]
        rw [hI]
        refine ⟨υ, rfl, uυ, v3, by rw [hE]; exact v4, by rw [v5]; exact hI, fun h => ?_, fun h => ?_⟩
        · rw [hK] at h
          split at h
          · rename_i hc
            exact v6 hc
          · omega
        · rw [hK] at h
          split at h <;> omega
  · have hK : tkK f N e = 0 := by unfold tkK; rw [if_pos e1]
    have hE : tkE f N e = tkS f N e := by unfold tkE; rw [if_pos e1]
    have hS3 : Sh (wI ω 1 6 0) := hB2.1
    rw [if_neg (nI_nlt (by omega) (by omega))]
    unfold f26_124
    simp only [acR hS3, Option.bind_some]
    rw [mI_w, if_pos ⟨rfl, rfl⟩, hK]
    refine ⟨_, rfl, u2.wI rfl, by rw [mI_w, if_neg (by omega)]; exact g7, by rw [mI_w, if_neg (by omega), hE]; exact g8, by rw [mI_w, if_pos ⟨rfl, rfl⟩, hK]; rfl, fun h => by omega, fun h => by omega⟩
end CLASS
