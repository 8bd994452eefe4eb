/-! THE TEXT: the reference's goesOn -/
def okB (x : Int32) : Prop := ∃ n, n < 256 ∧ x = (Int8.ofNat n).toInt32
theorem okB_of (x : Int32) : okB (x.toInt8.toInt32) := by
  refine ⟨x.toInt8.toBitVec.toNat, x.toInt8.toBitVec.isLt, ?_⟩
  congr 1
  apply Int8.toBitVec_inj.mp
  apply BitVec.eq_of_toNat_eq
  rw [show (Int8.ofNat x.toInt8.toBitVec.toNat).toBitVec = BitVec.ofNat 8 x.toInt8.toBitVec.toNat from rfl, BitVec.toNat_ofNat]
  exact (Nat.mod_eq_of_lt x.toInt8.toBitVec.isLt).symm
theorem byt_all : ∀ n, n < 256 → (((Int8.ofNat n).toInt32 &&& 255 = 32) = ((Int8.ofNat n).toInt32 = 32)) ∧ (((Int8.ofNat n).toInt32 &&& 255 = 59) = ((Int8.ofNat n).toInt32 = 59)) ∧ (((Int8.ofNat n).toInt32 &&& 255 < 97 ∨ 122 < (Int8.ofNat n).toInt32 &&& 255) = ((Int8.ofNat n).toInt32 < 97 ∨ 122 < (Int8.ofNat n).toInt32)) ∧ (((Int8.ofNat n).toInt32 &&& 255 < 48 ∨ 57 < (Int8.ofNat n).toInt32 &&& 255) = ((Int8.ofNat n).toInt32 < 48 ∨ 57 < (Int8.ofNat n).toInt32)) ∧ ¬ (Int8.ofNat n).toInt32 &&& 255 = -1 ∧ (¬ (Int8.ofNat n).toInt32 < 0 → (Int8.ofNat n).toInt32 &&& 255 = (Int8.ofNat n).toInt32) := by
  have h : ∀ n, n < 256 → (((Int8.ofNat n).toInt32 &&& 255 = 32) ↔ ((Int8.ofNat n).toInt32 = 32)) ∧ (((Int8.ofNat n).toInt32 &&& 255 = 59) ↔ ((Int8.ofNat n).toInt32 = 59)) ∧ (((Int8.ofNat n).toInt32 &&& 255 < 97 ∨ 122 < (Int8.ofNat n).toInt32 &&& 255) ↔ ((Int8.ofNat n).toInt32 < 97 ∨ 122 < (Int8.ofNat n).toInt32)) ∧ (((Int8.ofNat n).toInt32 &&& 255 < 48 ∨ 57 < (Int8.ofNat n).toInt32 &&& 255) ↔ ((Int8.ofNat n).toInt32 < 48 ∨ 57 < (Int8.ofNat n).toInt32)) ∧ ¬ (Int8.ofNat n).toInt32 &&& 255 = -1 ∧ (¬ (Int8.ofNat n).toInt32 < 0 → (Int8.ofNat n).toInt32 &&& 255 = (Int8.ofNat n).toInt32) := by decide +kernel
  intro n hn
  obtain ⟨a, b, c, d, e, g⟩ := h n hn
  exact ⟨propext a, propext b, propext c, propext d, e, g⟩
theorem byt {x : Int32} (h : okB x) : ((x &&& 255 = 32) = (x = 32)) ∧ ((x &&& 255 = 59) = (x = 59)) ∧ ((x &&& 255 < 97 ∨ 122 < x &&& 255) = (x < 97 ∨ 122 < x)) ∧ ((x &&& 255 < 48 ∨ 57 < x &&& 255) = (x < 48 ∨ 57 < x)) ∧ ¬ x &&& 255 = -1 ∧ (¬ x < 0 → x &&& 255 = x) := by
  obtain ⟨n, hn, rfl⟩ := h
  exact byt_all n hn
def rmB (σ : xM) (f : Nat → Int32) (N : Nat) : Prop := Sh σ ∧ N ≤ 900 ∧ mI σ 102 7 = nI N ∧ (∀ i, i < N → mI σ 103 i = f i) ∧ ∀ i, i < N → okB (f i)
def Pgo : Nat → Nat → Bool := fun a k => Nat.beq a 102 && [8, 9, 10, 11, 14].any (fun b => Nat.beq k b)
theorem rmB_upd {P : Nat → Nat → Bool} {σ τ : xM} {f : Nat → Int32} {N : Nat} (hu : Upd P σ τ) (h1 : P 102 7 = false) (h2 : ∀ k, P 103 k = false) (h : rmB σ f N) : rmB τ f N := ⟨hu.sh h.1, h.2.1, (hu.2.1 102 7 h1).trans h.2.2.1, fun i hi => (hu.2.1 103 i (h2 i)).trans (h.2.2.2.1 i hi), h.2.2.2.2⟩
def bM (f : Nat → Int32) (N i : Nat) : Int32 := if i < N then f i &&& 255 else -1
/-- the reference's numbers of the sorts -/
def mk (k : Nat) : Nat := if k = 0 then 1 else if k = 1 then 2 else if k = 2 then 3 else if k = 3 then 4 else 0
def mTk (τ : xM) (f : Nat → Int32) (N e : Nat) : Prop := mI τ 102 10 = nI (tkS f N e) ∧ mI τ 102 8 = nI (tkE f N e) ∧ mI τ 102 9 = nI (mk (tkK f N e)) ∧ (tkK f N e = 1 → mJ τ 102 14 = lN (wdM (tkW f N e))) ∧ (tkK f N e = 2 → mI τ 102 11 = nI (tkV f N e))
section REF
variable {σ : xM} {f : Nat → Int32} {N : Nat}
theorem f161N (hB : rmB σ f N) {i : Nat} (hi : i ≤ 900) : f161 102 (nI i) σ = some (bM f N i, σ) := by
  have hN := hB.2.1
  unfold f161 f161_22 bM
  simp only [acM hB.1, Option.bind_some, hB.2.2.1]
  by_cases e : i < N
  · rw [if_neg (nI_ge e (by omega)), if_pos e]
    simp only [acM hB.1, show i < 900 by omega, hB.2.2.2.1 i e, Option.bind_some]
  · rw [if_pos (nI_le (by omega) (by omega)), if_neg e]
theorem f162N (x : Int32) (σ : xM) : f162 x σ = some (bo (!decide (x < 97 ∨ 122 < x)), σ) := by
  unfold f162 f162_16 f162_17
  by_cases e1 : x < 97
  · rw [if_pos e1, decide_eq_true (Or.inl e1)]; rfl
  · rw [if_neg e1]
    by_cases e2 : 122 < x
    · rw [if_pos e2, decide_eq_true (Or.inr e2)]; rfl
    · rw [if_neg e2, decide_eq_false (fun h => h.elim e1 e2)]; rfl
theorem f163N (x : Int32) (σ : xM) : f163 x σ = some (bo (!decide (x < 48 ∨ 57 < x)), σ) := by
  unfold f163 f163_16 f163_17
  by_cases e1 : x < 48
  · rw [if_pos e1, decide_eq_true (Or.inl e1)]; rfl
  · rw [if_neg e1]
    by_cases e2 : 57 < x
    · rw [if_pos e2, decide_eq_true (Or.inr e2)]; rfl
    · rw [if_neg e2, decide_eq_false (fun h => h.elim e1 e2)]; rfl
theorem bM_lt (hB : rmB σ f N) (i : Nat) : (!decide (bM f N i < 97 ∨ 122 < bM f N i)) = (decide (i < N) && cLt f i) := by
  unfold bM cLt
  by_cases e : i < N
  · rw [if_pos e, decide_eq_true e, Bool.true_and]
    have := (byt (hB.2.2.2.2 i e)).2.2.1
    simp only [this]
  · rw [if_neg e, decide_eq_false e]
    rfl
theorem bM_dg (hB : rmB σ f N) (i : Nat) : (!decide (bM f N i < 48 ∨ 57 < bM f N i)) = (decide (i < N) && cDg f i) := by
  unfold bM cDg
  by_cases e : i < N
  · rw [if_pos e, decide_eq_true e, Bool.true_and]
    have := (byt (hB.2.2.2.2 i e)).2.2.2.1
    simp only [this]
  · rw [if_neg e, decide_eq_false e]
    rfl
theorem bM_ltv (hB : rmB σ f N) {i : Nat} (hi : i < N) (hc : cLt f i = true) : ∃ b, 97 ≤ b ∧ b ≤ 122 ∧ f i = nI b ∧ bM f N i = nI b := by
  unfold cLt at hc
  rw [Bool.not_eq_true', decide_eq_false_iff_not] at hc
  obtain ⟨b, c1, c2, c3⟩ := lt_n hc
  refine ⟨b, c1, c2, c3, ?_⟩
  unfold bM
  rw [if_pos hi, (byt (hB.2.2.2.2 i hi)).2.2.2.2.2 (by rw [c3]; exact nI_pos (by omega)), c3]
theorem bM_dgv (hB : rmB σ f N) {i : Nat} (hi : i < N) (hc : cDg f i = true) : ∃ b, 48 ≤ b ∧ b ≤ 57 ∧ f i = nI b ∧ bM f N i = nI b := by
  unfold cDg at hc
  rw [Bool.not_eq_true', decide_eq_false_iff_not] at hc
  obtain ⟨b, c1, c2, c3⟩ := dg_n hc
  refine ⟨b, c1, c2, c3, ?_⟩
  unfold bM
  rw [if_pos hi, (byt (hB.2.2.2.2 i hi)).2.2.2.2.2 (by rw [c3]; exact nI_pos (by omega)), c3]
theorem run_no {c : Nat → Bool} {e : Nat} (he : e ≤ N) (h : run c N e = e) : (decide (e < N) && c e) = false := by
  rw [Bool.and_eq_false_iff, decide_eq_false_iff_not]
  by_cases e1 : e < N
  · refine Or.inr ?_
    rw [Bool.eq_false_iff]
    intro e2
    have h1 := run_step e1 e2
    have h2 := (run_b (c := c) (show e + 1 ≤ N by omega)).1
    omega
  · exact Or.inl e1
/-- the letters of a word -/
theorem f165_84N (hB : rmB σ f N) {st : Nat} (hst : st ≤ N) (h8 : mI σ 102 8 = nI st) (hw : mJ σ 102 14 = 0) : ∃ τ, f165_84 1100 102 0 σ = some τ ∧ Upd Pgo σ τ ∧ mI τ 102 8 = nI (run (cLt f) N st) ∧ mI τ 102 9 = (if run (cLt f) N st - st ≤ 8 then 2 else mI σ 102 9) ∧ mI τ 102 10 = mI σ 102 10 ∧ (run (cLt f) N st - st ≤ 8 → mJ τ 102 14 = lN (wdM (lt f st (run (cLt f) N st - st)))) := by
  obtain ⟨b1, b2, b3⟩ := run_b (c := cLt f) hst
  have hN := hB.2.1
  have key : ∀ (k m j : Nat) (τ : xM), st + j + k = run (cLt f) N st → k + 1 ≤ m → run (cLt f) N (st + j) = run (cLt f) N st → Upd Pgo σ τ → mI τ 102 8 = nI (st + j) → mI τ 102 9 = mI σ 102 9 → mI τ 102 10 = mI σ 102 10 → (j ≤ 8 → mJ τ 102 14 = lN (wdM (lt f st j))) → ∃ τ', f165_84 m 102 (nI j) τ = f165_147 102 (nI (run (cLt f) N st - st)) τ' ∧ Upd Pgo σ τ' ∧ mI τ' 102 8 = nI (run (cLt f) N st) ∧ mI τ' 102 9 = mI σ 102 9 ∧ mI τ' 102 10 = mI σ 102 10 ∧ (run (cLt f) N st - st ≤ 8 → mJ τ' 102 14 = lN (wdM (lt f st (run (cLt f) N st - st)))) := by
    intro k
    induction k with
    | zero =>
      intro m j τ hj hm hrun hu g8 g9 g10 gw
      obtain ⟨m, rfl⟩ : ∃ i, m = i + 1 := ⟨m - 1, by omega⟩
      have hB' := rmB_upd hu rfl (fun _ => rfl) hB
      have hj' : j = run (cLt f) N st - st := by omega
      refine ⟨τ, ?_, hu, by rw [g8]; congr 1, g9, g10, fun h => by rw [← hj']; exact gw (by omega)⟩
      have hno := run_no (c := cLt f) (show st + j ≤ N by omega) (by omega)
      rw [f165_84]
      simp only [acM hB'.1, Option.bind_some, g8, f161N hB' (show st + j ≤ 900 by omega), f162N, bM_lt hB', hno, bo_0]
      rw [if_pos trivial, ← hj']
    | succ k ih =>
      intro m j τ hj hm hrun hu g8 g9 g10 gw
      obtain ⟨m, rfl⟩ : ∃ i, m = i + 1 := ⟨m - 1, by omega⟩
      have hB' := rmB_upd hu rfl (fun _ => rfl) hB
      have hc := b3 (st + j) (by omega) (by omega)
      have hlt : st + j < N := by omega
      obtain ⟨b, c1, c2, c3, c4⟩ := bM_ltv hB' hlt hc
      have hyes : (decide (st + j < N) && cLt f (st + j)) = true := by rw [decide_eq_true hlt, hc]; rfl
      rw [f165_84]
      unfold f165_131
      simp only [acM hB'.1, Option.bind_some, g8, f161N hB' (show st + j ≤ 900 by omega), f162N, bM_lt hB', hyes, bo_0, nI_1]
      rw [if_neg (by simp)]
      by_cases e8 : 8 ≤ j
      · rw [if_pos (show (8 : Int32) ≤ nI j from nI_le (a := 8) e8 (by omega))]
        exact ih m (j + 1) (wI τ 102 8 (nI (st + j + 1))) (by omega) (by omega) (by rw [← hrun, run_step hlt hc]; rfl) (hu.wI rfl) (by rw [mI_w, if_pos ⟨rfl, rfl⟩]; rfl) (by rw [mI_w, if_neg (by omega)]; exact g9) (by rw [mI_w, if_neg (by omega)]; exact g10) (fun h => by omega)
      · rw [if_neg (show ¬ (8 : Int32) ≤ nI j from nI_ge (b := 8) (by omega) (by omega))]
        have hval : 32 * mJ τ 102 14 + (bM f N (st + j) - 97 + 1).toInt64 = lN (wdM (lt f st (j + 1))) := by
          rw [gw (by omega), c4, show (97 : Int32) = nI 97 from rfl, pk_sub (by omega), nI_1, nI_l (by omega), show (32 : Int64) = lN 32 from rfl, lN_mul, lN_add, lt, wdM, c3, show pN (nI b) = b from nI_clamp (by omega)]
          congr 1
          omega
        rw [hval]
        have hS2 : Sh (wJ τ 102 14 (lN (wdM (lt f st (j + 1))))) := hB'.1
        have e8' : mI (wJ τ 102 14 (lN (wdM (lt f st (j + 1))))) 102 8 = nI (st + j) := g8
        simp only [acM hS2, Option.bind_some, e8', nI_1]
        exact ih m (j + 1) (wI (wJ τ 102 14 (lN (wdM (lt f st (j + 1))))) 102 8 (nI (st + j + 1))) (by omega) (by omega) (by rw [← hrun, run_step hlt hc]; rfl) ((hu.wJ rfl).wI rfl) (by rw [mI_w, if_pos ⟨rfl, rfl⟩]; rfl) (by rw [mI_w, if_neg (by omega)]; exact g9) (by rw [mI_w, if_neg (by omega)]; exact g10) (fun h => by rw [mJ_w, mJ_wJ, if_pos ⟨rfl, rfl⟩])
  obtain ⟨τ, t1, t2, t3, t4, t5, t6⟩ := key (run (cLt f) N st - st) 1100 0 σ (by omega) (by omega) rfl Upd.refl h8 rfl rfl (fun _ => hw)
  have hB' := rmB_upd t2 rfl (fun _ => rfl) hB
  have t1 : f165_84 1100 102 0 σ = f165_147 102 (nI (run (cLt f) N st - st)) τ := t1
  rw [t1]
  unfold f165_147 f165_265
  by_cases e : run (cLt f) N st - st ≤ 8
  · rw [if_neg (show ¬ (8 : Int32) < nI (run (cLt f) N st - st) from nI_nlt (a := 8) e (by omega)), if_pos e]
    simp only [acM hB'.1, Option.bind_some]
    exact ⟨_, rfl, t2.wI rfl, by rw [mI_w, if_neg (by omega)]; exact t3, by rw [mI_w, if_pos ⟨rfl, rfl⟩], by rw [mI_w, if_neg (by omega)]; exact t5, fun h => t6 h⟩
  · rw [if_pos (show (8 : Int32) < nI (run (cLt f) N st - st) from nI_lt (a := 8) (by omega) (by omega)), if_neg e]
    exact ⟨τ, rfl, t2, t3, t4, t5, t6⟩
/-- the digits of a whole -/
theorem f165_173N (hB : rmB σ f N) {st : Nat} (hst : st ≤ N) (h8 : mI σ 102 8 = nI st) (hw : mI σ 102 11 = 0) : ∃ τ, f165_173 1100 102 0 σ = some τ ∧ Upd Pgo σ τ ∧ mI τ 102 8 = nI (run (cDg f) N st) ∧ mI τ 102 9 = (if run (cDg f) N st - st ≤ 3 then 3 else mI σ 102 9) ∧ mI τ 102 10 = mI σ 102 10 ∧ (run (cDg f) N st - st ≤ 3 → mI τ 102 11 = nI (vl f st (run (cDg f) N st - st))) := by
  obtain ⟨b1, b2, b3⟩ := run_b (c := cDg f) hst
  have hN := hB.2.1
  have key : ∀ (k m j : Nat) (τ : xM), st + j + k = run (cDg f) N st → k + 1 ≤ m → run (cDg f) N (st + j) = run (cDg f) N st → Upd Pgo σ τ → mI τ 102 8 = nI (st + j) → mI τ 102 9 = mI σ 102 9 → mI τ 102 10 = mI σ 102 10 → (j ≤ 3 → mI τ 102 11 = nI (vl f st j)) → ∃ τ', f165_173 m 102 (nI j) τ = f165_231 102 (nI (run (cDg f) N st - st)) τ' ∧ Upd Pgo σ τ' ∧ mI τ' 102 8 = nI (run (cDg f) N st) ∧ mI τ' 102 9 = mI σ 102 9 ∧ mI τ' 102 10 = mI σ 102 10 ∧ (run (cDg f) N st - st ≤ 3 → mI τ' 102 11 = nI (vl f st (run (cDg f) N st - st))) := by
    intro k
    induction k with
    | zero =>
      intro m j τ hj hm hrun hu g8 g9 g10 gw
      obtain ⟨m, rfl⟩ : ∃ i, m = i + 1 := ⟨m - 1, by omega⟩
      have hB' := rmB_upd hu rfl (fun _ => rfl) hB
      have hj' : j = run (cDg f) N st - st := by omega
      refine ⟨τ, ?_, hu, by rw [g8]; congr 1, g9, g10, fun h => by rw [← hj']; exact gw (by omega)⟩
      have hno := run_no (c := cDg f) (show st + j ≤ N by omega) (by omega)
      rw [f165_173]
      simp only [acM hB'.1, Option.bind_some, g8, f161N hB' (show st + j ≤ 900 by omega), f163N, bM_dg hB', hno, bo_0]
      rw [if_pos trivial, ← hj']
    | succ k ih =>
      intro m j τ hj hm hrun hu g8 g9 g10 gw
      obtain ⟨m, rfl⟩ : ∃ i, m = i + 1 := ⟨m - 1, by omega⟩
      have hB' := rmB_upd hu rfl (fun _ => rfl) hB
      have hc := b3 (st + j) (by omega) (by omega)
      have hlt : st + j < N := by omega
      obtain ⟨b, c1, c2, c3, c4⟩ := bM_dgv hB' hlt hc
      have hyes : (decide (st + j < N) && cDg f (st + j)) = true := by rw [decide_eq_true hlt, hc]; rfl
      rw [f165_173]
      unfold f165_215
      simp only [acM hB'.1, Option.bind_some, g8, f161N hB' (show st + j ≤ 900 by omega), f163N, bM_dg hB', hyes, bo_0, nI_1]
      rw [if_neg (by simp)]
      by_cases e8 : 3 ≤ j
      · rw [if_pos (show (3 : Int32) ≤ nI j from nI_le (a := 3) e8 (by omega))]
        exact ih m (j + 1) (wI τ 102 8 (nI (st + j + 1))) (by omega) (by omega) (by rw [← hrun, run_step hlt hc]; rfl) (hu.wI rfl) (by rw [mI_w, if_pos ⟨rfl, rfl⟩]; rfl) (by rw [mI_w, if_neg (by omega)]; exact g9) (by rw [mI_w, if_neg (by omega)]; exact g10) (fun h => by omega)
      · rw [if_neg (show ¬ (3 : Int32) ≤ nI j from nI_ge (b := 3) (by omega) (by omega))]
        have hval : 10 * mI τ 102 11 + bM f N (st + j) - 48 = nI (vl f st (j + 1)) := by
          rw [gw (by omega), c4, show (10 : Int32) = nI 10 from rfl, pk_mul, nI_add, show (48 : Int32) = nI 48 from rfl, pk_sub (by omega), vl, c3, show pN (nI b) = b from nI_clamp (by omega)]
          congr 1
          omega
        rw [hval]
        have hS2 : Sh (wI τ 102 11 (nI (vl f st (j + 1)))) := hB'.1
        have e8' : mI (wI τ 102 11 (nI (vl f st (j + 1)))) 102 8 = nI (st + j) := by rw [mI_w, if_neg (by omega)]; exact g8
        simp only [acM hS2, Option.bind_some, e8', nI_1]
        exact ih m (j + 1) (wI (wI τ 102 11 (nI (vl f st (j + 1)))) 102 8 (nI (st + j + 1))) (by omega) (by omega) (by rw [← hrun, run_step hlt hc]; rfl) ((hu.wI rfl).wI rfl) (by rw [mI_w, if_pos ⟨rfl, rfl⟩]; rfl) (by rw [mI_w, if_neg (by omega), mI_w, if_neg (by omega)]; exact g9) (by rw [mI_w, if_neg (by omega), mI_w, if_neg (by omega)]; exact g10) (fun h => by rw [mI_w, if_neg (by omega), mI_w, if_pos ⟨rfl, rfl⟩])
  obtain ⟨τ, t1, t2, t3, t4, t5, t6⟩ := key (run (cDg f) N st - st) 1100 0 σ (by omega) (by omega) rfl Upd.refl h8 rfl rfl (fun _ => hw)
  have hB' := rmB_upd t2 rfl (fun _ => rfl) hB
  have t1 : f165_173 1100 102 0 σ = f165_231 102 (nI (run (cDg f) N st - st)) τ := t1
  rw [t1]
  unfold f165_231 f165_265
  by_cases e : run (cDg f) N st - st ≤ 3
  · rw [if_neg (show ¬ (3 : Int32) < nI (run (cDg f) N st - st) from nI_nlt (a := 3) e (by omega)), if_pos e]
    simp only [acM hB'.1, Option.bind_some]
    exact ⟨_, rfl, t2.wI rfl, by rw [mI_w, if_neg (by omega)]; exact t3, by rw [mI_w, if_pos ⟨rfl, rfl⟩], by rw [mI_w, if_neg (by omega)]; exact t5, fun h => by rw [mI_w, if_neg (by omega)]; exact t6 h⟩
  · rw [if_pos (show (3 : Int32) < nI (run (cDg f) N st - st) from nI_lt (a := 3) (by omega) (by omega)), if_neg e]
    exact ⟨τ, rfl, t2, t3, t4, t5, t6⟩
/-- goesOn -/
theorem f165N (hB : rmB σ f N) {e : Nat} (he : e ≤ N) (h8 : mI σ 102 8 = nI e) (h9 : ¬ mI σ 102 9 = 5) : ∃ τ, f165 102 σ = some τ ∧ Upd Pgo σ τ ∧ mTk τ f N e := by
  have hN := hB.2.1
  obtain ⟨b1, b2, b3⟩ := run_b (c := cSp f) he
  have bsp : ∀ τ, rmB τ f N → ∀ i, (bM f N i = 32) = (i < N ∧ f i = 32) := fun τ hB i => by
    unfold bM
    by_cases e : i < N
    · rw [if_pos e, (byt (hB.2.2.2.2 i e)).1]
      simp [e]
    · rw [if_neg e]
      simp [e]
  have key : ∀ (k m j : Nat) (τ : xM), e + j + k = run (cSp f) N e → k + 1 ≤ m → run (cSp f) N (e + j) = run (cSp f) N e → Upd Pgo σ τ → mI τ 102 8 = nI (e + j) → ∃ τ', f165_9 m 102 τ = f165_35 102 τ' ∧ Upd Pgo σ τ' ∧ mI τ' 102 8 = nI (run (cSp f) N e) := by
    intro k
    induction k with
    | zero =>
      intro m j τ hj hm hrun hu g8
      obtain ⟨m, rfl⟩ : ∃ i, m = i + 1 := ⟨m - 1, by omega⟩
      have hB' := rmB_upd hu rfl (fun _ => rfl) hB
      refine ⟨τ, ?_, hu, by rw [g8]; congr 1⟩
      have hno := run_no (c := cSp f) (show e + j ≤ N by omega) (by omega)
      rw [f165_9]
      simp only [acM hB'.1, Option.bind_some, g8, f161N hB' (show e + j ≤ 900 by omega), bsp τ hB']
      rw [if_neg (fun h => by
        unfold cSp at hno
        rw [decide_eq_true h.1, decide_eq_true h.2] at hno
        cases hno)]
    | succ k ih =>
      intro m j τ hj hm hrun hu g8
      obtain ⟨m, rfl⟩ : ∃ i, m = i + 1 := ⟨m - 1, by omega⟩
      have hB' := rmB_upd hu rfl (fun _ => rfl) hB
      have hc := b3 (e + j) (by omega) (by omega)
      have hlt : e + j < N := by omega
      have hc' := hc
      unfold cSp at hc'
      rw [decide_eq_true_eq] at hc'
      rw [f165_9]
      simp only [acM hB'.1, Option.bind_some, g8, f161N hB' (show e + j ≤ 900 by omega), bsp τ hB', nI_1]
      rw [if_pos ⟨hlt, hc'⟩]
      exact ih m (j + 1) (wI τ 102 8 (nI (e + j + 1))) (by omega) (by omega) (by rw [← hrun, run_step hlt hc]; rfl) (hu.wI rfl) (by rw [mI_w, if_pos ⟨rfl, rfl⟩]; rfl)
  obtain ⟨τ, t1, t2, t3⟩ := key (run (cSp f) N e - e) 1100 0 σ (by omega) (by omega) rfl Upd.refl h8
  have t3 : mI τ 102 8 = nI (tkS f N e) := t3
  have hs : tkS f N e ≤ N := b2
  have e0 : f165 102 σ = f165_35 102 τ := by
    unfold f165
    simp only [acM hB.1, Option.bind_some]
    rw [if_neg h9]
    exact t1
  rw [e0]
  have hB1 := rmB_upd t2 rfl (fun _ => rfl) hB
  have u2 : Upd Pgo σ (wI (wI τ 102 10 (nI (tkS f N e))) 102 9 0) := (t2.wI rfl).wI rfl
  have hSa : Sh (wI τ 102 10 (nI (tkS f N e))) := hB1.1
  have hB2 := rmB_upd u2 rfl (fun _ => rfl) hB
  have g8 : mI (wI (wI τ 102 10 (nI (tkS f N e))) 102 9 0) 102 8 = nI (tkS f N e) := by rw [mI_w, if_neg (by omega), mI_w, if_neg (by omega)]; exact t3
  have g9 : mI (wI (wI τ 102 10 (nI (tkS f N e))) 102 9 0) 102 9 = 0 := by rw [mI_w, if_pos ⟨rfl, rfl⟩]
  have g10 : mI (wI (wI τ 102 10 (nI (tkS f N e))) 102 9 0) 102 10 = nI (tkS f N e) := by rw [mI_w, if_neg (by omega), mI_w, if_pos ⟨rfl, rfl⟩]
  unfold f165_35 f165_265
  simp only [acM hB1.1, Option.bind_some, t3]
  simp only [acM hSa, Option.bind_some]
  generalize wI (wI τ 102 10 (nI (tkS f N e))) 102 9 0 = ω at u2 hB2 g8 g9 g10
  simp only [acM hB2.1, Option.bind_some, g8, f161N hB2 (show tkS f N e ≤ 900 by omega), f162N, f163N, bM_lt hB2, bM_dg hB2, bo_0]
  by_cases e1 : tkS f N e < N
  · have hb1 : ¬ bM f N (tkS f N e) = -1 := by unfold bM; rw [if_pos e1]; exact (byt (hB2.2.2.2.2 _ e1)).2.2.2.2.1
    have hb59 : (bM f N (tkS f N e) = 59) = (f (tkS f N e) = 59) := by unfold bM; rw [if_pos e1]; exact (byt (hB2.2.2.2.2 _ e1)).2.1
    rw [if_neg hb1, decide_eq_true e1, Bool.true_and, Bool.true_and]
    simp only [hb59]
    cases e3 : cLt f (tkS f N e)
    · rw [if_pos rfl]
      cases e4 : cDg f (tkS f N e)
      · rw [if_pos rfl]
        by_cases e2 : f (tkS f N e) = 59
        · have hK : tkK f N e = 3 := by unfold tkK; rw [if_neg (by omega), if_pos e2]
          have hE : tkE f N e = tkS f N e + 1 := by unfold tkE; rw [if_neg (by omega), if_pos e2]
          have hS3 : Sh (wI ω 102 9 4) := hB2.1
          have g83 : mI (wI ω 102 9 4) 102 8 = nI (tkS f N e) := by rw [mI_w, if_neg (by omega)]; exact g8
          rw [if_pos e2]
          simp only [acM hS3, Option.bind_some, g83, nI_1]
          refine ⟨_, rfl, (u2.wI rfl).wI rfl, ?_, ?_, ?_, fun h => by omega, fun h => by omega⟩
          · rw [mI_w, if_neg (by omega), mI_w, if_neg (by omega)]; exact g10
          · rw [mI_w, if_pos ⟨rfl, rfl⟩, hE]
          · rw [mI_w, if_neg (by omega), mI_w, if_pos ⟨rfl, rfl⟩, hK]; rfl
        · have hK : tkK f N e = 4 := by unfold tkK; rw [if_neg (by omega), if_neg e2, e3, e4]; rfl
          have hE : tkE f N e = tkS f N e := by unfold tkE; rw [if_neg (by omega), if_neg e2, e3, e4]; rfl
          rw [if_neg e2]
          exact ⟨ω, rfl, u2, g10, by rw [hE]; exact g8, by rw [hK]; exact g9, fun h => by omega, fun h => by omega⟩
      · rw [if_neg (by simp)]
        have e2 : ¬ f (tkS f N e) = 59 := fun h => by
          unfold cDg at e4
          rw [h] at e4
          exact absurd e4 (by decide)
        have hE : tkE f N e = run (cDg f) N (tkS f N e) := by unfold tkE; rw [if_neg (by omega), if_neg e2, e3, e4]; rfl
        have hK : tkK f N e = if run (cDg f) N (tkS f N e) - tkS f N e ≤ 3 then 2 else 4 := by unfold tkK; rw [if_neg (by omega), if_neg e2, e3, e4]; rfl
        have u3 : Upd Pgo σ (wI ω 102 11 0) := u2.wI rfl
        obtain ⟨υ, v1, v2, v3, v4, v5, v6⟩ := f165_173N (σ := wI ω 102 11 0) (rmB_upd u3 rfl (fun _ => rfl) hB) hs (by rw [mI_w, if_neg (by omega)]; exact g8) (by rw [mI_w, if_pos ⟨rfl, rfl⟩])
        refine ⟨υ, v1, u3.trans v2, ?_, by rw [hE]; exact v3, ?_, fun h => ?_, fun h => ?_⟩
        · rw [v5, mI_w, if_neg (by omega)]; exact g10
        · rw [v4, hK, show mI (wI ω 102 11 0) 102 9 = 0 by rw [mI_w, if_neg (by omega)]; exact g9]
          split <;> rfl
        · rw [hK] at h
          split at h <;> omega
        · rw [hK] at h
          split at h
          · rename_i hc
            exact v6 hc
          · omega
    · rw [if_neg (by simp)]
      have e2 : ¬ f (tkS f N e) = 59 := fun h => by
        unfold cLt at e3
        rw [h] at e3
        exact absurd e3 (by decide)
      have hE : tkE f N e = run (cLt f) N (tkS f N e) := by unfold tkE; rw [if_neg (by omega), if_neg e2, e3]; rfl
      have hK : tkK f N e = if run (cLt f) N (tkS f N e) - tkS f N e ≤ 8 then 1 else 4 := by unfold tkK; rw [if_neg (by omega), if_neg e2, e3]; rfl
      have u3 : Upd Pgo σ (wJ ω 102 14 0) := u2.wJ rfl
      obtain ⟨υ, v1, v2, v3, v4, v5, v6⟩ := f165_84N (σ := wJ ω 102 14 0) (rmB_upd u3 rfl (fun _ => rfl) hB) hs g8 (by rw [mJ_wJ, if_pos ⟨rfl, rfl⟩])
      refine ⟨υ, v1, u3.trans v2, ?_, by rw [hE]; exact v3, ?_, fun h => ?_, fun h => ?_⟩
      · rw [v5]; exact g10
      · rw [v4, hK, show mI (wJ ω 102 14 0) 102 9 = 0 from g9]
        split <;> rfl
      · rw [hK] at h
        split at h
        · rename_i hc
          exact v6 hc
        · omega
      · rw [hK] at h
        split at h <;> omega
  · have hK : tkK f N e = 0 := by unfold tkK; rw [if_pos e1]
    have hE : tkE f N e = tkS f N e := by unfold tkE; rw [if_pos e1]
    have hb1 : bM f N (tkS f N e) = -1 := by unfold bM; rw [if_neg e1]
    rw [if_pos hb1]
    exact ⟨_, rfl, u2.wI rfl, by rw [mI_w, if_neg (by omega)]; exact g10, by rw [mI_w, if_neg (by omega), hE]; exact g8, by rw [mI_w, if_pos ⟨rfl, rfl⟩, hK]; rfl, fun h => by omega, fun h => by omega⟩
end REF
