/-! WHOM TO ASK: the class's answers best, bestMean -/
theorem riF_ex {v : Nat → Nat} {c : Nat → Bool} {i : Nat} (hi : c i = true) : ∀ {N}, i < N → ∃ k, riF v c N = some k := by
  intro N
  induction N with
  | zero => intro h; omega
  | succ N ih =>
    intro h
    rw [riF]
    by_cases e : i = N
    · subst e
      rw [hi]
      cases e1 : riF v c i with
      | none => exact ⟨i, rfl⟩
      | some k =>
        by_cases e2 : v k < v i
        · exact ⟨i, by simp [mor, e2]⟩
        · exact ⟨k, by simp [mor, e2]⟩
    · obtain ⟨k, hk⟩ := ih (by omega)
      rw [hk]
      cases c N
      · exact ⟨k, rfl⟩
      · by_cases e2 : v k < v N
        · exact ⟨N, by simp [mor, e2]⟩
        · exact ⟨k, by simp [mor, e2]⟩
def skOr (n : Nat) (s : Sta) (p : Int32) (b : Bool) : Int32 := if isP n p then (if b then (if tb (lv s) (pN p) then 0 else 5) else 2) else 1
theorem skOr_0 {n : Nat} {s : Sta} {p : Int32} {b : Bool} (hk : Ok n s) (h : skOr n s p b = 0) : b = true ∧ ∃ j, j < n ∧ p = nI j ∧ tb (lv s) j = true := by
  unfold skOr at h
  cases e : isP n p
  · rw [e, if_neg (by simp)] at h
    exact absurd h (by decide)
  · obtain ⟨j, hj, rfl⟩ := isP_nI hk.1 e
    have hj6 : j < 6 := by have := hk.1; omega
    rw [e, if_pos rfl, pN_nI hj6] at h
    cases eb : b
    · rw [eb, if_neg (by simp)] at h
      exact absurd h (by decide)
    · rw [eb, if_pos rfl] at h
      cases el : tb (lv s) j
      · rw [el, if_neg (by simp)] at h
        exact absurd h (by decide)
      · exact ⟨rfl, j, hj, rfl, el⟩
def okN (lo_ hi : Int32) (x : Int32) : Bool := !decide (x < lo_ ∨ hi < x)
def besK (C : Cty) (s : Sta) (p n : Nat) : Nat := (riF (roV C s p) (mbF (aska C s p)) (10 ^ n)).getD 0
def aBes (C : Cty) (s : Sta) (p x : Int32) : Int32 × Int32 := if skOr (pe C) s p (okN 1 3 x) = 0 then (nI (besK C s (pN p) (pN x)), 0) else (-1, skOr (pe C) s p (okN 1 3 x))
def aBem (C : Cty) (s : Sta) (p x b : Int32) : Int64 × Int32 := if skOr (pe C) s p (okN 1 3 x) = 0 then (lN (fra (roV C s (pN p) (besK C s (pN p) (pN x))) 1000000000000 b), 0) else (-1, skOr (pe C) s p (okN 1 3 x))
theorem bes_ex (C : Cty) (s : Sta) (p n : Nat) : ∃ k, riF (roV C s p) (mbF (aska C s p)) (10 ^ n) = some k ∧ besK C s p n = k ∧ k < 10 ^ n ∧ vrow (aska C s p) k = true := by
  obtain ⟨k, hk⟩ := riF_ex (v := roV C s p) (c := mbF (aska C s p)) (i := 0) rfl (N := 10 ^ n) (Nat.pow_pos (by decide))
  refine ⟨k, hk, by unfold besK; rw [hk]; rfl, (riF_iff.mp hk).1, ?_⟩
  have := (riF_iff.mp hk).2.1
  unfold mbF at this
  rw [Bool.and_eq_true] at this
  exact this.1
theorem okN_of {x : Int32} {lo_ hi : Nat} (hl : lo_ < 2 ^ 31) (hb : hi < 2 ^ 31) (h : okN (nI lo_) (nI hi) x = true) : ∃ k, lo_ ≤ k ∧ k ≤ hi ∧ x = nI k := by
  unfold okN at h
  rw [Bool.not_eq_true', decide_eq_false_iff_not] at h
  have h1 : ¬ x < nI lo_ := fun e => h (Or.inl e)
  have h2 : ¬ nI hi < x := fun e => h (Or.inr e)
  have h0 : ¬ x < 0 := fun e => h1 (Int32.lt_of_lt_of_le e (nI_pos' hl))
  obtain ⟨k, hk, rfl⟩ := nI_of h0
  refine ⟨k, ?_, ?_, rfl⟩
  · rw [nI_ltI hk hl] at h1
    omega
  · rw [nI_ltI hb hk] at h2
    omega
section CLASS
variable {σ : xM} {C : Cty} {s : Sta}
theorem f120N (h : QC σ C s) (p : Int32) (b : Bool) : f120 0 p (bo b) σ = some (skOr (pe C) s p b, σ) := by
  obtain ⟨hS, hp, hc, hk, hC⟩ := id h
  unfold f120 f120_36 skOr
  simp only [acC hS, Option.bind_some, f116_eq hS hk.1 hp, bo_0]
  cases e : isP (pe C) p
  · simp
  · obtain ⟨j, hj, rfl⟩ := isP_nI hk.1 e
    have hj6 : j < 6 := by have := hk.1; omega
    rw [if_neg (by simp), if_pos rfl, pN_nI hj6]
    cases b
    · simp
    · simp only [f48_26 hS hc hk hj6, Option.bind_some, bo_0]
      cases tb (lv s) j <;> simp
theorem c85 (h : QC σ C s) (hh : hr s ≤ 999) (p x : Int32) : cQ σ (f85 0 p x σ) (aBes C s p x) := by
  obtain ⟨hS, hp, hc, hk, hC⟩ := id h
  have e0 : f85 0 p x σ = f85_18 0 p x (bo (okN 1 3 x)) p 0 0 σ := by
    unfold f85 f85_17 okN
    by_cases e1 : x < 1 <;> by_cases e2 : 3 < x <;> simp [e1, e2, bo]
  rw [e0]
  unfold f85_18 aBes
  simp only [acC hS, Option.bind_some, f120N h, f114_eq hS, bo_ref]
  by_cases e : skOr (pe C) s p (okN 1 3 x) = 0
  · obtain ⟨hb, j, hj, rfl, hl⟩ := skOr_0 hk e
    have hj6 : j < 6 := by have := hk.1; omega
    obtain ⟨n, n1, n2, rfl⟩ := okN_of (lo_ := 1) (hi := 3) (by decide) (by decide) hb
    obtain ⟨hS1, -⟩ := QC_w h 0
    obtain ⟨τ, t1, t2⟩ := f137N (QC_w h 0) hh hj ⟨n1, n2⟩
    obtain ⟨k, k1, k2, k3, k4⟩ := bes_ex C s j n
    rw [if_pos e, if_pos e, e, pN_nI hj6, show pN (nI n) = n from nI_clamp (by omega), k2]
    simp only [acC hS1, Option.bind_some, t1, k1]
    refine ⟨τ, rfl, (Upd.refl.wI rfl).trans (P29_Q t2), ?_⟩
    rw [t2.2.1 0 8 rfl, mI_w, if_pos ⟨rfl, rfl⟩]
  · rw [if_neg e, if_neg e]
    exact cQ_w
theorem c86 (h : QC σ C s) (hh : hr s ≤ 999) (p x b : Int32) : cQ σ (f86 0 p x b σ) (aBem C s p x b) := by
  obtain ⟨hS, hp, hc, hk, hC⟩ := id h
  have e0 : f86 0 p x b σ = f86_18 0 p x b (bo (okN 1 3 x)) p 0 0 σ := by
    unfold f86 f86_17 okN
    by_cases e1 : x < 1 <;> by_cases e2 : 3 < x <;> simp [e1, e2, bo]
  rw [e0]
  unfold f86_18 aBem
  simp only [acC hS, Option.bind_some, f120N h, f114_eq hS, bo_ref]
  by_cases e : skOr (pe C) s p (okN 1 3 x) = 0
  · obtain ⟨hb, j, hj, rfl, hl⟩ := skOr_0 hk e
    have hj6 : j < 6 := by have := hk.1; omega
    obtain ⟨n, n1, n2, rfl⟩ := okN_of (lo_ := 1) (hi := 3) (by decide) (by decide) hb
    obtain ⟨hC, hO, -⟩ := hC (by omega)
    obtain ⟨hS1, -⟩ := QC_w h 0
    obtain ⟨τ, t1, t2⟩ := f137N (QC_w h 0) hh hj ⟨n1, n2⟩
    obtain ⟨k, k1, k2, k3, k4⟩ := bes_ex C s j n
    have hk1000 : k < 1000 := Nat.lt_of_lt_of_le k3 (show 10 ^ n ≤ 10 ^ 3 from Nat.pow_le_pow_right (by decide) n2)
    have hQ2 := QC_upd (P29_Q t2) (QC_w h 0)
    obtain ⟨υ, v1, v2⟩ := f139N hQ2 hh hj hk1000 k4
    rw [if_pos e, if_pos e, e, pN_nI hj6, show pN (nI n) = n from nI_clamp (by omega), k2]
    simp only [acC hS1, Option.bind_some, t1, k1, acC hQ2.1]
    rw [show roB (some k) = nI k from rfl, v1, Option.bind_some]
    simp only
    rw [f135N _ (Nat.lt_of_le_of_lt (me_le hO (rowS_ok hk hh hj k4) j) (by decide)), Option.bind_some, fra_c]
    refine ⟨υ, rfl, (Upd.refl.wI rfl).trans (P29_Q (t2.trans v2)), ?_⟩
    rw [v2.2.1 0 8 rfl, t2.2.1 0 8 rfl, mI_w, if_pos ⟨rfl, rfl⟩]
  · rw [if_neg e, if_neg e]
    exact cQ_w
end CLASS
