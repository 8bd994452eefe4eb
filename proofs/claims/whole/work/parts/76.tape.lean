/-! THE TAPE: feed in both; size; led in the reference -/
def shv (k : Nat) : Int32 := 24 - 8 * nI k
/-- a byte as both keep it -/
def bt (a : Int32) (k : Nat) : Int32 := ((a >>> (shv k &&& 31)).toInt8.toInt32).toInt8.toInt32
def cTp (σ : xM) (n : Nat) (f : Nat → Int32) : Prop := n ≤ 900 ∧ mI σ 1 0 = nI n ∧ ∀ i, i < n → mI σ 13 i = f i
def mTp (σ : xM) (n : Nat) (f : Nat → Int32) : Prop := n ≤ 900 ∧ mI σ 102 6 = nI n ∧ ∀ i, i < n → mI σ 103 i = f i
/-- some more bytes -/
def app (f : Nat → Int32) (n : Nat) (g : Nat → Int32) : Nat → Int32 := fun i => if i < n then f i else g (i - n)
def Ptc : Nat → Nat → Bool := fun a k => Nat.beq a 13 || (Nat.beq a 1 && Nat.beq k 0)
theorem shv4 : ∀ j, j < 4 → ¬ shv j < 0 ∧ shv j + (-8) = shv (j + 1) := by decide
section TAPE
variable {σ : xM} {C : Cty} {s : Sta}
/-- one byte more -/
theorem cTp_w {n : Nat} {f : Nat → Int32} {x : Int32} (h : cTp σ n f) (hn : n < 900) : cTp (wI (wI σ 13 n x) 1 0 (nI (n + 1))) (n + 1) (app f n (fun _ => x)) := by
  obtain ⟨h1, h2, h3⟩ := h
  refine ⟨by omega, by rw [mI_w, if_pos ⟨rfl, rfl⟩], fun i hi => ?_⟩
  rw [mI_w, if_neg (by omega), mI_w]
  unfold app
  by_cases e : i = n
  · rw [if_pos ⟨rfl, e⟩, if_neg (by omega)]
  · rw [if_neg (fun h => e h.2), if_pos (by omega)]
    exact h3 i (by omega)
theorem mTp_w {n : Nat} {f : Nat → Int32} {x : Int32} (h : mTp σ n f) (hn : n < 900) : mTp (wI (wI σ 103 n x) 102 6 (nI (n + 1))) (n + 1) (app f n (fun _ => x)) := by
  obtain ⟨h1, h2, h3⟩ := h
  refine ⟨by omega, by rw [mI_w, if_pos ⟨rfl, rfl⟩], fun i hi => ?_⟩
  rw [mI_w, if_neg (by omega), mI_w]
  unfold app
  by_cases e : i = n
  · rw [if_pos ⟨rfl, e⟩, if_neg (by omega)]
  · rw [if_neg (fun h => e h.2), if_pos (by omega)]
    exact h3 i (by omega)
theorem cTp_congr {n : Nat} {f g : Nat → Int32} (h : cTp σ n f) (hg : ∀ i, i < n → f i = g i) : cTp σ n g := ⟨h.1, h.2.1, fun i hi => (h.2.2 i hi).trans (hg i hi)⟩
theorem mTp_congr {n : Nat} {f g : Nat → Int32} (h : mTp σ n f) (hg : ∀ i, i < n → f i = g i) : mTp σ n g := ⟨h.1, h.2.1, fun i hi => (h.2.2 i hi).trans (hg i hi)⟩
theorem app_app {f g : Nat → Int32} {n j : Nat} {x : Int32} (hx : x = g j) : ∀ i, i < n + j + 1 → app (app f n g) (n + j) (fun _ => x) i = app f n g i := fun i hi => by
  unfold app
  by_cases e : i < n + j
  · rw [if_pos e]
  · rw [if_neg e, if_neg (by omega), hx, show i - n = j by omega]
/-- append -/
theorem f23N {n : Nat} {f : Nat → Int32} (hS : Sh σ) (h : cTp σ n f) (hn : n + 4 ≤ 900) (a : Int32) : ∃ τ, f23 1 a σ = some τ ∧ Upd Ptc σ τ ∧ cTp τ (n + 4) (app f n (bt a)) := by
  unfold f23
  refine lpI (fun m j τ => f23_3 m 1 a (shv j) τ) 4 (fun j τ => Upd Ptc σ τ ∧ cTp τ (n + j) (app f n (bt a))) (fun o => ∃ τ, o = some τ ∧ Upd Ptc σ τ ∧ cTp τ (n + 4) (app f n (bt a))) (fun j hj m τ hI => ?_) (fun m τ hI => ?_) 4 1100 0 σ rfl (by omega) ⟨Upd.refl, cTp_congr h (fun i hi => by unfold app; rw [if_pos (show i < n from hi)])⟩
  · obtain ⟨hu, ht⟩ := hI
    have hS' := hu.sh hS
    have hSw : ∀ x, Sh (wI τ 13 (n + j) x) := fun _ => hS'
    obtain ⟨s1, s2⟩ := shv4 j hj
    refine ⟨wI (wI τ 13 (n + j) (bt a j)) 1 0 (nI (n + j + 1)), ⟨(hu.wI rfl).wI rfl, cTp_congr (cTp_w ht (by omega)) (app_app rfl)⟩, ?_⟩
    show f23_3 (m + 1) _ _ _ _ = f23_3 m _ _ _ _
    have e0 : mI (wI τ 13 (n + j) (bt a j)) 1 0 = nI (n + j) := by rw [mI_w, if_neg (by omega)]; exact ht.2.1
    rw [f23_3, if_neg s1]
    simp only [acR hS', Option.bind_some, ht.2.1, show n + j < 900 by omega]
    rw [if_neg (show ¬ (900 : Int32) ≤ nI (n + j) from nI_ge (b := 900) (by omega) (by omega)), show (((a >>> (shv j &&& 31)).toInt8.toInt32).toInt8.toInt32) = bt a j from rfl]
    simp only [acR (hSw _), Option.bind_some, e0, nI_1, s2]
  · obtain ⟨hu, ht⟩ := hI
    refine ⟨τ, ?_, hu, ht⟩
    show f23_3 (m + 1) _ _ _ _ = _
    rw [f23_3, if_pos (show shv 4 < 0 by decide)]
    rfl
/-- the twenty bytes of five ints -/
def sel5 (a b c d e : Int32) (k : Nat) : Int32 := if k < 4 then a else if k < 8 then b else if k < 12 then c else if k < 16 then d else e
def bt5 (a b c d e : Int32) (k : Nat) : Int32 := bt (sel5 a b c d e k) (k % 4)
def aFed (n : Nat) : Int32 × Nat := if n + 20 ≤ 900 then (nI (n + 20), n + 20) else (-1, n)
theorem c64 {n : Nat} {f : Nat → Int32} (hS : Sh σ) (h : cTp σ n f) (a b c d e : Int32) : ∃ τ, f64 0 a b c d e σ = some ((aFed n).1, τ) ∧ Upd Ptc σ τ ∧ cTp τ (aFed n).2 (app f n (bt5 a b c d e)) := by
  unfold f64 aFed
  have r0 : gR σ 0 7 0 = some 1 := by simp only [acC hS]
  have r1 : gI σ 1 3 0 = some (nI n) := by simp only [acR hS, h.2.1]
  rw [r0, Option.bind_some, r1, Option.bind_some, show nI n + 20 = nI (n + 20) from nI_add n 20]
  by_cases e1 : n + 20 ≤ 900
  · rw [if_pos (show nI (n + 20) ≤ 900 from nI_le (b := 900) e1 (by omega)), if_pos e1]
    obtain ⟨τ1, a1, a2, a3⟩ := f23N hS h (by omega) a
    have S1 := a2.sh hS
    obtain ⟨τ2, b1, b2, b3⟩ := f23N S1 a3 (by omega) b
    have S2 := b2.sh S1
    obtain ⟨τ3, c1, c2, c3⟩ := f23N S2 b3 (by omega) c
    have S3 := c2.sh S2
    obtain ⟨τ4, d1, d2, d3⟩ := f23N S3 c3 (by omega) d
    have S4 := d2.sh S3
    obtain ⟨τ5, e1, e2, e3⟩ := f23N S4 d3 (by omega) e
    have S5 := e2.sh S4
    refine ⟨τ5, ?_, a2.trans (b2.trans (c2.trans (d2.trans e2))), cTp_congr e3 (fun i hi => ?_)⟩
    · simp only [acC hS, acR hS, Option.bind_some, a1, acC S1, acR S1, b1, acC S2, acR S2, c1, acC S3, acR S3, d1, acC S4, acR S4, e1, acC S5, acR S5, e3.2.1]
    · unfold app bt5 sel5
      by_cases i0 : i < n
      · rw [if_pos (by omega), if_pos (by omega), if_pos (by omega), if_pos (by omega), if_pos i0, if_pos i0]
      · by_cases i1 : i < n + 4
        · rw [if_pos (by omega), if_pos (by omega), if_pos (by omega), if_pos i1, if_neg i0, if_neg i0, if_pos (by omega), show (i - n) % 4 = i - n by omega]
        · by_cases i2 : i < n + 4 + 4
          · rw [if_pos (by omega), if_pos (by omega), if_pos i2, if_neg i1, if_neg i0, if_neg (by omega), if_pos (by omega), show (i - n) % 4 = i - (n + 4) by omega]
          · by_cases i3 : i < n + 4 + 4 + 4
            · rw [if_pos (by omega), if_pos i3, if_neg i2, if_neg i0, if_neg (by omega), if_neg (by omega), if_pos (by omega), show (i - n) % 4 = i - (n + 4 + 4) by omega]
            · by_cases i4 : i < n + 4 + 4 + 4 + 4
              · rw [if_pos i4, if_neg i3, if_neg i0, if_neg (by omega), if_neg (by omega), if_neg (by omega), if_pos (by omega), show (i - n) % 4 = i - (n + 4 + 4 + 4) by omega]
              · rw [if_neg i4, if_neg i0, if_neg (by omega), if_neg (by omega), if_neg (by omega), if_neg (by omega), show (i - n) % 4 = i - (n + 4 + 4 + 4 + 4) by omega]
  · rw [if_neg (show ¬ nI (n + 20) ≤ 900 from nI_ge (a := 900) (by omega) (by have := h.1; omega)), if_neg e1]
    exact ⟨σ, rfl, Upd.refl, cTp_congr h (fun i hi => by unfold app; rw [if_pos hi])⟩
def Ptm2 : Nat → Nat → Bool := fun a k => Nat.beq a 103 || (Nat.beq a 102 && (Nat.beq k 0 || Nat.beq k 6))
theorem m182 {n : Nat} {f : Nat → Int32} (hS : Sh σ) (h : mTp σ n f) (a b c d e : Int32) : ∃ τ, f182 102 a b c d e σ = some ((aFed n).1, τ) ∧ Upd Ptm2 σ τ ∧ mTp τ (aFed n).2 (app f n (bt5 a b c d e)) ∧ mI τ 102 0 = 0 := by
  have hS0 : Sh (th σ) := hS
  have h0 : mTp (th σ) n f := ⟨h.1, by unfold th; rw [mI_w, if_neg (by omega)]; exact h.2.1, fun i hi => by unfold th; rw [mI_w, if_neg (by omega)]; exact h.2.2 i hi⟩
  have u0 : Upd Ptm2 σ (th σ) := Upd.refl.wI rfl
  unfold f182 aFed
  simp only [acM hS, Option.bind_some]
  rw [show wI σ 102 0 0 = th σ from rfl]
  simp only [acM hS0, Option.bind_some, h0.2.1]
  rw [show nI n + 20 = nI (n + 20) from nI_add n 20]
  by_cases e1 : n + 20 ≤ 900
  · rw [if_pos (show nI (n + 20) ≤ 900 from nI_le (b := 900) e1 (by omega)), if_pos e1]
    refine lpI (fun m j τ => f182_23 m 102 a b c d e (nI j) τ) 20 (fun j τ => Upd Ptm2 σ τ ∧ mTp τ (n + j) (app f n (bt5 a b c d e)) ∧ mI τ 102 0 = 0) (fun o => ∃ τ, o = some (nI (n + 20), τ) ∧ Upd Ptm2 σ τ ∧ mTp τ (n + 20) (app f n (bt5 a b c d e)) ∧ mI τ 102 0 = 0) (fun j hj m τ hI => ?_) (fun m τ hI => ?_) 20 1100 0 (th σ) rfl (by omega) ⟨u0, mTp_congr h0 (fun i hi => by unfold app; rw [if_pos (show i < n from hi)]), th_0⟩
    · obtain ⟨hu, ht, hz⟩ := hI
      have hS' := hu.sh hS
      have hSw : ∀ x, Sh (wI τ 103 (n + j) x) := fun _ => hS'
      refine ⟨wI (wI τ 103 (n + j) (bt5 a b c d e j)) 102 6 (nI (n + j + 1)), ⟨(hu.wI rfl).wI rfl, mTp_congr (mTp_w ht (by omega)) (app_app rfl), by rw [mI_w, if_neg (by omega), mI_w, if_neg (by omega)]; exact hz⟩, ?_⟩
      have e0 : ∀ x, mI (wI τ 103 (n + j) x) 102 6 = nI (n + j) := fun x => by rw [mI_w, if_neg (by omega)]; exact ht.2.1
      have st : ∀ K x, f182_76 K 102 a b c d e (nI j) x τ = K 102 a b c d e (nI (j + 1)) (wI (wI τ 103 (n + j) (bt x (j % 4))) 102 6 (nI (n + j + 1))) := fun K x => by
        unfold f182_76
        have hr : rI (nI j) 4 = some (nI (j % 4)) := rIN (x := j) (y := 4) (by omega) (by omega) (by omega)
        simp only [acM hS', Option.bind_some, ht.2.1, hr, show n + j < 900 by omega]
        simp only [acM (hSw _), Option.bind_some, e0, nI_1]
        rfl
      show f182_23 (m + 1) _ _ _ _ _ _ _ _ = f182_23 m _ _ _ _ _ _ _ _
      rw [f182_23, if_neg (show ¬ (20 : Int32) ≤ nI j from nI_ge (b := 20) hj (by omega))]
      simp only [st]
      unfold bt5 sel5
      by_cases i1 : j < 4
      · rw [if_neg (show ¬ (4 : Int32) ≤ nI j from nI_ge (b := 4) i1 (by omega)), if_pos i1]
      · rw [if_pos (show (4 : Int32) ≤ nI j from nI_le (a := 4) (by omega) (by omega)), if_neg i1]
        by_cases i2 : j < 8
        · rw [if_neg (show ¬ (8 : Int32) ≤ nI j from nI_ge (b := 8) i2 (by omega)), if_pos i2]
        · rw [if_pos (show (8 : Int32) ≤ nI j from nI_le (a := 8) (by omega) (by omega)), if_neg i2]
          by_cases i3 : j < 12
          · rw [if_neg (show ¬ (12 : Int32) ≤ nI j from nI_ge (b := 12) i3 (by omega)), if_pos i3]
          · rw [if_pos (show (12 : Int32) ≤ nI j from nI_le (a := 12) (by omega) (by omega)), if_neg i3]
            by_cases i4 : j < 16
            · rw [if_neg (show ¬ (16 : Int32) ≤ nI j from nI_ge (b := 16) i4 (by omega)), if_pos i4]
            · rw [if_pos (show (16 : Int32) ≤ nI j from nI_le (a := 16) (by omega) (by omega)), if_neg i4]
    · obtain ⟨hu, ht, hz⟩ := hI
      refine ⟨τ, ?_, hu, ht, hz⟩
      show f182_23 (m + 1) _ _ _ _ _ _ _ _ = _
      rw [f182_23, if_pos (show (20 : Int32) ≤ nI 20 by decide)]
      unfold f182_117
      simp only [acM (hu.sh hS), Option.bind_some, ht.2.1]
  · rw [if_neg (show ¬ nI (n + 20) ≤ 900 from nI_ge (a := 900) (by omega) (by have := h.1; omega)), if_neg e1]
    exact ⟨th σ, rfl, u0, mTp_congr h0 (fun i hi => by unfold app; rw [if_pos hi]), th_0⟩
end TAPE
