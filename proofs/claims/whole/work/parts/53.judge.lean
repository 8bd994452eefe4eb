/-! AS IT WAS TOLD: judge in both -/
def told (C : Cty) : Sta := (h0 C, r0 C, 2 ^ pe C - 1, 0, hr0 C, 0, 0)
theorem tb_all {n p : Nat} : tb (2 ^ n - 1) p = decide (p < n) := by
  unfold tb
  rw [Nat.testBit_two_pow_sub_one]
theorem told_ok {C : Cty} (hO : OkC C) : Ok (pe C) (told C) := by
  obtain ⟨o1, o2, o3, o4, o5, o6, o7, o8, o9, o10, o11, o12, o13⟩ := hO
  refine ⟨o1, ?_, fun p hp hl => ?_, ?_, ?_, fun p q h e => (o8 p q h e).2.2, by show 0 ≤ 999; omega, by show 0 ≤ 65536; omega, fun p _ => o9 p⟩
  · have := Nat.two_pow_pos (pe C)
    show 2 ^ pe C - 1 < 2 ^ pe C
    omega
  · have hl : tb (2 ^ pe C - 1) p = false := hl
    rw [tb_all, decide_eq_false_iff_not] at hl
    exact absurd hp hl
  · have h1 : sm (h0 C) (pe C) ≤ sm (fun _ => 99) (pe C) := sm_le (fun i hi => (o2 i hi).2.1)
    have h2 : sm (fun _ => 99) 6 = sm (fun _ => 99) (pe C) + sm (fun _ => 99) (6 - pe C) := by
      have := sm_split (fun _ => 99) (pe C) (6 - pe C)
      rw [show pe C + (6 - pe C) = 6 by omega] at this
      exact this
    have h3 : sm (fun _ => 99) 6 = 594 := rfl
    show sm (h0 C) (pe C) + 0 ≤ 594
    omega
  · show hr0 C ≤ 2000
    omega
def jdC (C : Cty) (p : Nat) : Bool := match wn C p with
  | none => false
  | some w => decide (¬ w = hN (told C) p)
def aJud (C : Cty) : Int32 × Int32 := if 0 < pe C then (ob (fs (jdC C) 0 6), 0) else (-1, 1)
theorem evN : ∀ n, n ≤ 6 → (1 : Int32) <<< (nI n &&& 31) - 1 = nI (2 ^ n - 1) := by decide +kernel
theorem wn_6 {C : Cty} (hO : OkC C) {p q : Nat} (h : wn C p = some (some q)) : q < 6 := by
  have h1 := hO.1
  have h2 := hO.2.2.2.2.2.1 p q h
  omega
theorem wC_m3 {C : Cty} (hO : OkC C) (p : Nat) : (wC (wn C p) = -3) = (wn C p = none) := by
  apply propext
  cases e : wn C p with
  | none => exact ⟨fun _ => rfl, fun _ => rfl⟩
  | some w =>
    refine ⟨fun h => ?_, fun h => by cases h⟩
    cases w with
    | none => exact absurd h (by decide)
    | some q =>
      have h6 := wn_6 hO e
      have h : nI q = -3 := h
      have h1 := nI_pos (show q < 2 ^ 31 by omega)
      rw [h] at h1
      exact absurd (by decide) h1
theorem wM_m1 {C : Cty} (hO : OkC C) (p : Nat) : (wM (wn C p) = -1) = (wn C p = none) := by
  apply propext
  cases e : wn C p with
  | none => exact ⟨fun _ => rfl, fun _ => rfl⟩
  | some w =>
    refine ⟨fun h => ?_, fun h => by cases h⟩
    cases w with
    | none => exact absurd h (by decide)
    | some q =>
      have h6 := wn_6 hO e
      have h : nI q = -1 := h
      have h1 := nI_pos (show q < 2 ^ 31 by omega)
      rw [h] at h1
      exact absurd (by decide) h1
section BOTH
variable {σ : xM} {c : Nat} {C : Cty} {s : Sta}
theorem c97 (h : QC σ C s) : cQ σ (f97 0 σ) (aJud C) := by
  obtain ⟨hS, hp, hc, hk, hC⟩ := id h
  unfold f97 f97_13 aJud
  simp only [acC hS, Option.bind_some, f115_eq hS hk.1 hp, f114_eq hS, bo_ref, bo_0, dec0]
  by_cases e : 0 < pe C
  · obtain ⟨hS1, hp1, hc1, -, hC1⟩ := QC_w h 0
    obtain ⟨hC1, hO, -⟩ := hC1 e
    have hkt := told_ok hO
    have h57 := f57N (s := told C) (r := 21) hS1 (sh_a hS1 (by decide) rfl rfl) (by decide) hC1.2.2.2.1 hkt
    have hS2 := wl_sh (s := told C) hS1
    have hC2 := wl_cC (s := told C) hC1
    have hH2 := wl_cH (wI σ 0 8 0) (told C)
    have hq : cQ σ (some (ob (fs (jdC C) 0 6), wl (wI σ 0 8 0) (told C))) (ob (fs (jdC C) 0 6), 0) := cQ_wl
    rw [if_neg (by simp [e]), if_pos e]
    simp only [if_true, acC hS1, Option.bind_some, f3, hp1, evN _ hk.1]
    rw [show f57 92 21 (nI (2 ^ pe C - 1)) (wI σ 0 8 0) = some (wl (wI σ 0 8 0) (told C)) from h57, Option.bind_some]
    generalize wl (wI σ 0 8 0) (told C) = τ at hS2 hC2 hH2 hq
    have hL : f97_44 1100 0 0 τ = some (ob (fs (jdC C) 0 6), τ) := by
      have e1 : ∀ m j, j < 6 → f97_44 (m + 1) 0 (nI j) τ = if jdC C j = false then f97_44 m 0 (nI (j + 1)) τ else some (nI j, τ) := fun m j hj => by
        have hw : mI τ 20 j = wC (wn C j) := (hC2.2.2.1 j hj).2
        rw [f97_44, if_neg (show ¬ (6 : Int32) ≤ nI j from nI_ge (b := 6) hj (by omega))]
        unfold f97_87
        simp only [acC hS2, Option.bind_some, hj, hw, hH2 j hj, nI_1, wC_m3 hO j]
        unfold jdC
        cases ew : wn C j with
        | none => simp
        | some w =>
          have he : (wC (some w) = ob (hN (told C) j)) = (w = hN (told C) j) := by
            have h1 : wC (some w) = ob w := by cases w <;> rfl
            rw [h1]
            exact propext (ob_eq (fun k ek => wn_6 hO (ek ▸ ew)) (hN_6 _ j))
          simp only [he]
          by_cases e2 : w = hN (told C) j
          · simp [e2]
          · simp [e2]
      refine lpE (fun m j => f97_44 m 0 (nI j) τ) 6 (jdC C) (fun o => some (ob o, τ)) (fun j hj hc m r hn => ?_) (fun j hj hc m => ?_) (fun m => ?_) 6 1100 0 rfl (by omega)
      · show f97_44 (m + 1) _ _ _ = _
        rw [e1 m j hj, if_pos hc]
        exact hn
      · show f97_44 (m + 1) _ _ _ = _
        rw [e1 m j hj, if_neg (by rw [hc]; simp)]
        rfl
      · show f97_44 (m + 1) _ _ _ = _
        rw [f97_44, if_pos (show (6 : Int32) ≤ nI 6 by decide)]
        rfl
    rw [hL]
    exact hq
  · rw [if_pos (by simp [e]), if_neg e]
    simpa using cQ_w
/-- asTold -/
theorem f189N (hT : hasT σ c) (hM : mC σ c C) (hO : OkC C) : ∃ τ, f189 102 σ = some τ ∧ Upd P105 σ τ ∧ mrow (mI τ 105) (pe C) (told C) := by
  have h6 := hO.1
  have hcc := hT.2.1.1
  have A1 : ∃ τ, f189 102 σ = f189_21 102 τ ∧ Upd P105 σ τ ∧ ∀ k, k < 47 → mI τ 105 k = 0 := by
    unfold f189
    refine lpI (fun m j τ => f189_2 m 102 (nI j) τ) 47 (fun j τ => Upd P105 σ τ ∧ ∀ k, k < j → mI τ 105 k = 0) (fun o => ∃ τ, o = f189_21 102 τ ∧ Upd P105 σ τ ∧ ∀ k, k < 47 → mI τ 105 k = 0) (fun j hj m τ hI => ?_) (fun m τ hI => ?_) 47 1100 0 σ rfl (by omega) ⟨Upd.refl, fun k hk => by omega⟩
    · obtain ⟨hu, hz⟩ := hI
      have hS' := hu.sh hT.1
      refine ⟨wI τ 105 j 0, ⟨hu.wI rfl, fun k hk => ?_⟩, ?_⟩
      · rw [mI_w]
        by_cases e : k = j
        · rw [if_pos ⟨rfl, e⟩]
        · rw [if_neg (fun h => e h.2)]
          exact hz k (by omega)
      · show f189_2 (m + 1) _ _ _ = f189_2 m _ _ _
        rw [f189_2, if_neg (show ¬ (47 : Int32) ≤ nI j from nI_ge (b := 47) hj (by omega))]
        simp only [acM hS', Option.bind_some, hj, nI_1]
    · obtain ⟨hu, hz⟩ := hI
      refine ⟨τ, ?_, hu, hz⟩
      show f189_2 (m + 1) _ _ _ = _
      rw [f189_2, if_pos (show (47 : Int32) ≤ nI 47 by decide)]
  obtain ⟨τ1, a1, a2, a3⟩ := A1
  have A2 : ∃ τ, f189_21 102 τ1 = f189_50 102 τ ∧ Upd P105 σ τ ∧ (∀ k, k < 6 → mI τ 105 k = mI σ (c + 2) k) ∧ ∀ k, 6 ≤ k → k < 47 → mI τ 105 k = 0 := by
    unfold f189_21
    refine lpI (fun m j τ => f189_23 m 102 (nI j) τ) 6 (fun j τ => Upd P105 σ τ ∧ (∀ k, k < j → mI τ 105 k = mI σ (c + 2) k) ∧ ∀ k, j ≤ k → k < 47 → mI τ 105 k = 0) (fun o => ∃ τ, o = f189_50 102 τ ∧ Upd P105 σ τ ∧ (∀ k, k < 6 → mI τ 105 k = mI σ (c + 2) k) ∧ ∀ k, 6 ≤ k → k < 47 → mI τ 105 k = 0) (fun j hj m τ hI => ?_) (fun m τ hI => ?_) 6 1100 0 τ1 rfl (by omega) ⟨a2, fun k hk => by omega, fun k _ hk => a3 k hk⟩
    · obtain ⟨hu, hz, hy⟩ := hI
      have hT' := hu.hasT hT
      have e2 : mI τ (c + 2) j = mI σ (c + 2) j := hu.2.1 _ _ (lo105 _ _ (by omega))
      refine ⟨wI τ 105 j (mI σ (c + 2) j), ⟨hu.wI rfl, fun k hk => ?_, fun k h1 h2 => ?_⟩, ?_⟩
      · rw [mI_w]
        by_cases e : k = j
        · rw [if_pos ⟨rfl, e⟩, e]
        · rw [if_neg (fun h => e h.2)]
          exact hz k (by omega)
      · rw [mI_w, if_neg (by omega)]
        exact hy k (by omega) h2
      · show f189_23 (m + 1) _ _ _ = f189_23 m _ _ _
        rw [f189_23, if_neg (show ¬ (6 : Int32) ≤ nI j from nI_ge (b := 6) hj (by omega))]
        simp only [acM hT'.1, acG hT', acT0 hT'.2.1, acTa hT'.2.1, Option.bind_some, hj, e2, show j < 47 by omega, nI_1]
    · obtain ⟨hu, hz, hy⟩ := hI
      refine ⟨τ, ?_, hu, hz, hy⟩
      show f189_23 (m + 1) _ _ _ = _
      rw [f189_23, if_pos (show (6 : Int32) ≤ nI 6 by decide)]
  obtain ⟨τ2, b1, b2, b3, b4⟩ := A2
  have A3 : ∃ τ, f189_50 102 τ2 = f189_82 102 τ ∧ Upd P105 σ τ ∧ (∀ k, k < 6 → mI τ 105 k = mI σ (c + 2) k) ∧ (∀ k, k < 36 → mI τ 105 (6 + k) = mI σ (c + 6) k) ∧ ∀ k, 42 ≤ k → k < 47 → mI τ 105 k = 0 := by
    unfold f189_50
    refine lpI (fun m j τ => f189_52 m 102 (nI j) τ) 36 (fun j τ => Upd P105 σ τ ∧ (∀ k, k < 6 → mI τ 105 k = mI σ (c + 2) k) ∧ (∀ k, k < j → mI τ 105 (6 + k) = mI σ (c + 6) k) ∧ ∀ k, 42 ≤ k → k < 47 → mI τ 105 k = 0) (fun o => ∃ τ, o = f189_82 102 τ ∧ Upd P105 σ τ ∧ (∀ k, k < 6 → mI τ 105 k = mI σ (c + 2) k) ∧ (∀ k, k < 36 → mI τ 105 (6 + k) = mI σ (c + 6) k) ∧ ∀ k, 42 ≤ k → k < 47 → mI τ 105 k = 0) (fun j hj m τ hI => ?_) (fun m τ hI => ?_) 36 1100 0 τ2 rfl (by omega) ⟨b2, b3, fun k hk => by omega, fun k _ hk => b4 k (by omega) hk⟩
    · obtain ⟨hu, hw, hz, hy⟩ := hI
      have hT' := hu.hasT hT
      have e2 : mI τ (c + 6) j = mI σ (c + 6) j := hu.2.1 _ _ (lo105 _ _ (by omega))
      refine ⟨wI τ 105 (6 + j) (mI σ (c + 6) j), ⟨hu.wI rfl, fun k hk => ?_, fun k hk => ?_, fun k h1 h2 => ?_⟩, ?_⟩
      · rw [mI_w, if_neg (by omega)]
        exact hw k hk
      · rw [mI_w]
        by_cases e : k = j
        · rw [if_pos ⟨rfl, by omega⟩, e]
        · rw [if_neg (by omega)]
          exact hz k (by omega)
      · rw [mI_w, if_neg (by omega)]
        exact hy k h1 h2
      · show f189_52 (m + 1) _ _ _ = f189_52 m _ _ _
        rw [f189_52, if_neg (show ¬ (36 : Int32) ≤ nI j from nI_ge (b := 36) hj (by omega))]
        simp only [acM hT'.1, acG hT', acT0 hT'.2.1, acTa hT'.2.1, Option.bind_some, hj, e2, show (6 : Int32) = nI 6 from rfl, nI_add, show 6 + j < 47 by omega, nI_1]
    · obtain ⟨hu, hw, hz, hy⟩ := hI
      refine ⟨τ, ?_, hu, hw, hz, hy⟩
      show f189_52 (m + 1) _ _ _ = _
      rw [f189_52, if_pos (show (36 : Int32) ≤ nI 36 by decide)]
  obtain ⟨τ3, d1, d2, d3, d4, d5⟩ := A3
  have hT3 := d2.hasT hT
  have hM3 := mC_lo d2 lo105 hcc hM
  have hT4 : hasT (wI τ3 105 42 (nI (2 ^ pe C - 1))) c := hT3
  have e0 : mI (wI τ3 105 42 (nI (2 ^ pe C - 1))) c 0 = nI (hr0 C) := by
    rw [mI_w, if_neg (by omega)]
    exact hM3.1.1
  refine ⟨wI (wI τ3 105 42 (nI (2 ^ pe C - 1))) 105 44 (nI (hr0 C)), ?_, (d2.wI rfl).wI rfl, ?_⟩
  · rw [a1, b1, d1]
    unfold f189_82
    simp only [acM hT3.1, acG hT3, acT0 hT3.2.1, Option.bind_some, hM3.1.2.2.1, evN _ h6, litM, show 42 < 47 by omega]
    simp only [acM hT4.1, acG hT4, acT0 hT4.2.1, Option.bind_some, e0, show 44 < 47 by omega]
  · have hk : ∀ k, k ≠ 42 → k ≠ 44 → mI (wI (wI τ3 105 42 (nI (2 ^ pe C - 1))) 105 44 (nI (hr0 C))) 105 k = mI τ3 105 k := fun k a b => by
      rw [mI_w, if_neg (by omega), mI_w, if_neg (by omega)]
    refine ⟨fun p hp => ?_, fun p hp q hq => ?_, ?_, ?_, ?_, ?_, ?_⟩
    · rw [hk p (by omega) (by omega), d3 p (by omega)]
      exact (hM.2.1 p hp).2.1
    · rw [hk _ (by omega) (by omega), show 6 + 6 * p + q = 6 + (6 * p + q) by omega, d4 _ (by omega)]
      exact hM.2.2.2.1 p hp q hq
    · rw [mI_w, if_neg (by omega), mI_w, if_pos ⟨rfl, rfl⟩]
      rfl
    · rw [hk _ (by omega) (by omega), d5 _ (by omega) (by omega)]
      rfl
    · rw [mI_w, if_pos ⟨rfl, rfl⟩]
      rfl
    · rw [hk _ (by omega) (by omega), d5 _ (by omega) (by omega)]
      rfl
    · rw [hk _ (by omega) (by omega), d5 _ (by omega) (by omega)]
      rfl
end BOTH
