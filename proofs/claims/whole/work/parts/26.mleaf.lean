/-! THE REFERENCE: its city's cells, leaves, heirs, where all goes, a night -/
/-- a City of the reference's at c: c + 1 .. c + 10 are its arrays -/
def ShT (σ : xM) (c : Nat) : Prop := 115 ≤ c ∧ c + 10 < mN σ ∧ mK σ c = 8 ∧ (∀ i, i < 9 → mR σ c (7 + i) = some (c + (1 + i)) ∧ mK σ (c + (1 + i)) = 11) ∧ (mR σ c 16 = some (c + 10) ∧ mK σ (c + 10) = 12) ∧ (∀ i, i < 5 → mL σ (c + (1 + i)) = 6) ∧ mL σ (c + 6) = 36 ∧ mL σ (c + 7) = 3 ∧ mL σ (c + 8) = 3 ∧ mL σ (c + 9) = 3 ∧ mL σ (c + 10) = 6
theorem acT0 {σ : xM} {c : Nat} (h : ShT σ c) : cO σ c 8 = some () ∧ (∀ j, gI σ c 8 j = some (mI σ c j)) ∧ (∀ j x, pI σ c 8 j x = some (wI σ c j x)) ∧ gR σ c 8 7 = some (c + 1) ∧ gR σ c 8 8 = some (c + 2) ∧ gR σ c 8 9 = some (c + 3) ∧ gR σ c 8 10 = some (c + 4) ∧ gR σ c 8 11 = some (c + 5) ∧ gR σ c 8 12 = some (c + 6) ∧ gR σ c 8 13 = some (c + 7) ∧ gR σ c 8 14 = some (c + 8) ∧ gR σ c 8 15 = some (c + 9) ∧ gR σ c 8 16 = some (c + 10) := by
  obtain ⟨h1, h2, h3, h4, ⟨h5, h6⟩, h7, h8⟩ := h
  have hc : c < mN σ := by omega
  exact ⟨cO_yes hc h3, fun j => gI_ok hc h3, fun j x => pI_ok hc h3, gR_ok hc h3 (h4 0 (by omega)).1, gR_ok hc h3 (h4 1 (by omega)).1, gR_ok hc h3 (h4 2 (by omega)).1, gR_ok hc h3 (h4 3 (by omega)).1, gR_ok hc h3 (h4 4 (by omega)).1, gR_ok hc h3 (h4 5 (by omega)).1, gR_ok hc h3 (h4 6 (by omega)).1, gR_ok hc h3 (h4 7 (by omega)).1, gR_ok hc h3 (h4 8 (by omega)).1, gR_ok hc h3 h5⟩
theorem acTi {σ : xM} {c : Nat} (h : ShT σ c) : isI σ (c + 1) 6 ∧ isI σ (c + 2) 6 ∧ isI σ (c + 3) 6 ∧ isI σ (c + 4) 6 ∧ isI σ (c + 5) 6 ∧ isI σ (c + 6) 36 ∧ isI σ (c + 7) 3 ∧ isI σ (c + 8) 3 ∧ isI σ (c + 9) 3 ∧ isJ σ (c + 10) 6 := by
  obtain ⟨h1, h2, h3, h4, ⟨h5, h6⟩, h7, h8, h9, h10, h11, h12⟩ := h
  exact ⟨⟨by omega, (h4 0 (by omega)).2, h7 0 (by omega)⟩, ⟨by omega, (h4 1 (by omega)).2, h7 1 (by omega)⟩, ⟨by omega, (h4 2 (by omega)).2, h7 2 (by omega)⟩, ⟨by omega, (h4 3 (by omega)).2, h7 3 (by omega)⟩, ⟨by omega, (h4 4 (by omega)).2, h7 4 (by omega)⟩, ⟨by omega, (h4 5 (by omega)).2, h8⟩, ⟨by omega, (h4 6 (by omega)).2, h9⟩, ⟨by omega, (h4 7 (by omega)).2, h10⟩, ⟨by omega, (h4 8 (by omega)).2, h11⟩, ⟨by omega, h6, h12⟩⟩
/-- reads and writes of its arrays -/
theorem acTa {σ : xM} {c : Nat} (h : ShT σ c) : (∀ j, j < 6 → aI σ (c + 1) (nI j) = some (mI σ (c + 1) j)) ∧ (∀ j, j < 6 → aI σ (c + 2) (nI j) = some (mI σ (c + 2) j)) ∧ (∀ j, j < 6 → aI σ (c + 3) (nI j) = some (mI σ (c + 3) j)) ∧ (∀ j, j < 6 → aI σ (c + 4) (nI j) = some (mI σ (c + 4) j)) ∧ (∀ j, j < 6 → aI σ (c + 5) (nI j) = some (mI σ (c + 5) j)) ∧ (∀ j, j < 36 → aI σ (c + 6) (nI j) = some (mI σ (c + 6) j)) ∧ (∀ j, j < 3 → aI σ (c + 7) (nI j) = some (mI σ (c + 7) j)) ∧ (∀ j, j < 3 → aI σ (c + 8) (nI j) = some (mI σ (c + 8) j)) ∧ (∀ j, j < 3 → aI σ (c + 9) (nI j) = some (mI σ (c + 9) j)) := by
  obtain ⟨i1, i2, i3, i4, i5, i6, i7, i8, i9, -⟩ := acTi h
  exact ⟨fun j hj => aI_nI i1 hj (by decide), fun j hj => aI_nI i2 hj (by decide), fun j hj => aI_nI i3 hj (by decide), fun j hj => aI_nI i4 hj (by decide), fun j hj => aI_nI i5 hj (by decide), fun j hj => aI_nI i6 hj (by decide), fun j hj => aI_nI i7 hj (by decide), fun j hj => aI_nI i8 hj (by decide), fun j hj => aI_nI i9 hj (by decide)⟩
/-- the reference has a city, at c -/
def hasT (σ : xM) (c : Nat) : Prop := Sh σ ∧ ShT σ c ∧ mR σ 102 3 = some c
theorem acG {σ : xM} {c : Nat} (h : hasT σ c) : gR σ 102 9 3 = some c ∧ gQ σ 102 9 3 = some (some c) := by
  obtain ⟨hS, -, h3⟩ := h
  refine ⟨gR_ok (sh_n hS (by decide)) (sh_k hS (by decide)) h3, ?_⟩
  rw [show gQ σ 102 9 3 = some (mR σ 102 3) from gQ_ok (sh_n hS (by decide)) (sh_k hS (by decide)), h3]
theorem hasT_w {σ : xM} {c a k : Nat} {x : Int32} : hasT (wI σ a k x) c = hasT σ c := rfl
theorem hasT_wJ {σ : xM} {c a k : Nat} {x : Int64} : hasT (wJ σ a k x) c = hasT σ c := rfl
theorem Upd.hasT {P : Nat → Nat → Bool} {σ τ : xM} {c : Nat} (h : Upd P σ τ) (hT : hasT σ c) : hasT τ c := by
  obtain ⟨hS, hT, h3⟩ := hT
  refine ⟨h.sh hS, ?_, ?_⟩
  · obtain ⟨⟨a1, a2, a3, a4, -⟩, -⟩ := h
    unfold ShT
    rw [a1, a2, a3, a4]
    exact hT
  · rw [h.1.2.2.1]
    exact h3
theorem hasT_wr {σ : xM} {c a : Nat} {f : Nat → Int32} : ∀ {j}, hasT (wr σ a f j) c = hasT σ c := by
  intro j
  induction j with
  | zero => rfl
  | succ j ih => exact ih
/-- the reference's City at c bears C -/
def mC (σ : xM) (c : Nat) (C : Cty) : Prop := (mI σ c 0 = nI (hr0 C) ∧ mI σ c 1 = nI (gv C) ∧ mI σ c 2 = nI (pe C) ∧ mI σ c 3 = nI (nNe C) ∧ mI σ c 4 = nI (nAs C) ∧ mI σ c 5 = nI (nHe C) ∧ mI σ c 6 = nI (nWe C)) ∧ (∀ p, p < pe C → mI σ (c + 1) p = nI (kd C p) ∧ mI σ (c + 2) p = nI (h0 C p) ∧ mI σ (c + 3) p = nI (dz C p)) ∧ (∀ p, p < 6 → mI σ (c + 4) p = nI (nr C p) ∧ mI σ (c + 5) p = wM (wn C p)) ∧ (∀ p, p < 6 → ∀ q, q < 6 → mI σ (c + 6) (6 * p + q) = rM (r0 C p q)) ∧ (∀ k, k < nHe C → mI σ (c + 7) k = nI (hb C k) ∧ mI σ (c + 8) k = nI (ho C k) ∧ mI σ (c + 9) k = nI (hg C k))
theorem mC_upd {P : Nat → Nat → Bool} {σ τ : xM} (h : Upd P σ τ) {b : Nat} {C : Cty} (h1 : ∀ i k, i ≤ 10 → P (b + i) k = false) (hc : mC σ b C) : mC τ b C := by
  obtain ⟨⟨a1, a2, a3, a4, a5, a6, a7⟩, c2, c3, c4, c5⟩ := hc
  have e : ∀ i k, i ≤ 10 → mI τ (b + i) k = mI σ (b + i) k := fun i k hi => h.2.1 _ _ (h1 i k hi)
  have e0 : ∀ k, mI τ b k = mI σ b k := fun k => e 0 k (by omega)
  refine ⟨⟨?_, ?_, ?_, ?_, ?_, ?_, ?_⟩, fun p hp => ?_, fun p hp => ?_, fun p hp q hq => ?_, fun k hk => ?_⟩
  iterate 7 rw [e0]; assumption
  · rw [e 1 _ (by omega), e 2 _ (by omega), e 3 _ (by omega)]; exact c2 p hp
  · rw [e 4 _ (by omega), e 5 _ (by omega)]; exact c3 p hp
  · rw [e 6 _ (by omega)]; exact c4 p hp q hq
  · rw [e 7 _ (by omega), e 8 _ (by omega), e 9 _ (by omega)]; exact c5 k hk
/-- of the cells below 115 alone some are written -/
def lo (P : Nat → Nat → Bool) : Prop := ∀ a k, 115 ≤ a → P a k = false
theorem mC_lo {P : Nat → Nat → Bool} {σ τ : xM} (h : Upd P σ τ) (hP : lo P) {c : Nat} {C : Cty} (hc : 115 ≤ c) (hm : mC σ c C) : mC τ c C := mC_upd h (fun i k _ => hP _ k (by omega)) hm
/-- a loop over memories -/
theorem lpI {γ : Type} (G : Nat → Nat → xM → Option γ) (N : Nat) (I : Nat → xM → Prop) (Q : Option γ → Prop) (hs : ∀ j, j < N → ∀ n τ, I j τ → ∃ τ', I (j + 1) τ' ∧ G (n + 1) j τ = G n (j + 1) τ') (he : ∀ n τ, I N τ → Q (G (n + 1) N τ)) : ∀ (m n j : Nat) (τ : xM), j + m = N → m + 1 ≤ n → I j τ → Q (G n j τ) := by
  intro m
  induction m with
  | zero =>
    intro n j τ hj hn hI
    obtain ⟨n, rfl⟩ : ∃ k, n = k + 1 := ⟨n - 1, by omega⟩
    rw [show j = N by omega] at hI ⊢
    exact he n τ hI
  | succ m ih =>
    intro n j τ hj hn hI
    obtain ⟨n, rfl⟩ : ∃ k, n = k + 1 := ⟨n - 1, by omega⟩
    obtain ⟨τ', h1, h2⟩ := hs j (by omega) n τ hI
    rw [h2]
    exact ih n (j + 1) τ' (by omega) (by omega) h1
section REF
variable {σ : xM} {c n : Nat} {s : Sta} {C : Cty}
theorem litM : (42 : Int32) = nI 42 ∧ (43 : Int32) = nI 43 ∧ (44 : Int32) = nI 44 ∧ (45 : Int32) = nI 45 ∧ (46 : Int32) = nI 46 := ⟨rfl, rfl, rfl, rfl, rfl⟩
/-- isPerson -/
theorem f186N (hT : hasT σ c) (hn : n ≤ 6) (hp : mI σ c 2 = nI n) (p : Int32) : f186 102 p σ = some (bo (isP n p), σ) := by
  unfold f186 f186_26 f186_27
  simp only [acG hT, acT0 hT.2.1, Option.bind_some, hp, rZ0, rZ1]
  unfold isP
  by_cases h1 : p < 0
  · rw [if_pos h1, decide_eq_false (fun h => h.1 h1)]
  · rw [if_neg h1]
    by_cases h2 : nI n ≤ p
    · rw [if_pos h2, decide_eq_false (fun h => h.2 h2)]
    · rw [if_neg h2, decide_eq_true ⟨h1, h2⟩]
theorem f187N (hT : hasT σ c) (hn : n ≤ 6) (hp : mI σ c 2 = nI n) (p q : Int32) : f187 102 p q σ = some (bo (two n p q), σ) := by
  unfold f187 f187_25 f187_26
  simp only [acM hT.1, Option.bind_some, f186N hT hn hp, bo_0, rZ0, rZ1]
  unfold two
  cases isP n p <;> cases isP n q <;> simp
  by_cases e : p = q <;> simp [e]
/-- refusesLiving -/
theorem f203N (hT : hasT σ c) (hp : mI σ c 2 = nI n) (hv : mrow (mI σ 104) n s) (hk : Ok n s) (p : Int32) : f203 102 p σ = some (lvOr n s p, σ) := by
  unfold f203 f203_31 lvOr
  simp only [acM hT.1, Option.bind_some, f186N hT hk.1 hp, bo_0, litM, show 42 < 47 by omega, hv.2.2.1]
  cases h : isP n p
  · simp
  · obtain ⟨j, hj, rfl⟩ := isP_nI hk.1 h
    have hj6 : j < 6 := by have := hk.1; omega
    simp only [f157N hk.lv64 hj6, Option.bind_some, bo_0, inN _ hk.lv64 _ hj6]
    cases tb (lv s) j <;> simp
/-- mayAsk -/
theorem f148N (hT : hasT σ c) (hC : mC σ c C) (hO : OkC C) {p q : Nat} (hp : p < pe C) (hq : q < pe C) (hpq : p ≠ q) : f148 c (nI p) (nI q) σ = some (bo (alw C p q), σ) := by
  have h6 := hO.1
  have k1 := (hC.2.1 p hp).1
  have k2 := (hC.2.1 q hq).1
  have k3 := (hC.2.2.1 q (by omega)).1
  have b1 := (hO.2.1 p hp).1
  have b2 := (hO.2.1 q hq).1
  unfold f148 f148_43 f148_47 f148_48
  simp only [acT0 hT.2.1, acTa hT.2.1, Option.bind_some, show p < 6 by omega, show q < 6 by omega, k1, k2, k3, f157N (hO.nr64 (show q < 6 by omega)) (show p < 6 by omega), bo_0, rZ0, rZ1, rZ1', show (3 : Int32) = nI 3 from rfl, show (1 : Int32) = nI 1 from rfl, show (2 : Int32) = nI 2 from rfl, nI_eq (show kd C p < 2 ^ 31 by omega) (show 3 < 2 ^ 31 by omega), nI_eq (show kd C q < 2 ^ 31 by omega) (show 1 < 2 ^ 31 by omega), nI_eq (show kd C q < 2 ^ 31 by omega) (show 2 < 2 ^ 31 by omega)]
  unfold alw
  by_cases e2 : kd C p = 3
  · simp [e2]
  · by_cases e3 : kd C q = 1
    · simp [e2, e3]
    · by_cases e4 : kd C q = 2
      · simp only [e2, e3, e4]
        cases tb (nr C q) p <;> simp [rZ1', hpq]
      · simp [e2, e3, e4, rZ1', hpq]
theorem or0 (x : Int32) : x ||| 0 = x := by
  apply Int32.toBitVec_inj.mp
  simp
/-- canAsk -/
theorem f199N (hT : hasT σ c) (hC : mC σ c C) (hO : OkC C) (hv : mrow (mI σ 104) (pe C) s) (hk : Ok (pe C) s) {p : Nat} (hp : p < pe C) : f199 102 (nI p) σ = some (nI (aska C s p), σ) := by
  have h6 := hO.1
  have hp6 : p < 6 := by omega
  have e0 : aska C s p = col (fun q => tb (lv s) p && (tb (lv s) q && alw C p q)) (pe C) := col_more h6 (fun i h1 h2 => by
    rw [tb_lt hk.2.1 h1]
    simp)
  rw [e0]
  unfold f199
  refine lp (fun m j => f199_4 m 102 (nI p) (nI (col (fun q => tb (lv s) p && (tb (lv s) q && alw C p q)) j)) (nI j) σ) (pe C) (fun j hj m r hn => ?_) (fun m => ?_) (pe C) 1100 0 (by omega) (by omega)
  · have hj6 : j < 6 := by omega
    simp only [col] at hn
    show f199_4 (m + 1) _ _ _ _ _ = _
    unfold f199_4 f199_67 f199_68
    simp only [acM hT.1, acG hT, acT0 hT.2.1, Option.bind_some, hC.1.2.2.1, litM, show 42 < 47 by omega, hv.2.2.1, f157N hk.lv64 hj6, f157N hk.lv64 hp6, bo_0, nI_1, or0]
    rw [if_neg (nI_ge hj (by omega))]
    by_cases e1 : j = p
    · rw [if_pos (by rw [e1])]
      have : alw C p j = false := by unfold alw; simp [e1]
      simpa [this] using hn
    · rw [if_neg (fun h => e1 ((nI_eq (by omega) (by omega)).mp h))]
      cases e2 : tb (lv s) p
      · simpa [e2] using hn
      · cases e3 : tb (lv s) j
        · simpa [e2, e3] using hn
        · rw [f148N hT hC hO hp hj (fun e => e1 e.symm)]
          simp only [Option.bind_some, bo_0]
          cases e4 : alw C p j
          · simpa [e2, e3, e4] using hn
          · simpa [e2, e3, e4, orN _ (col_lt _ j (show j ≤ 6 by omega)) j hj6] using hn
  · show f199_4 (m + 1) _ _ _ _ _ = _
    unfold f199_4 f199_76
    simp only [acG hT, acT0 hT.2.1, Option.bind_some, hC.1.2.2.1]
    rw [if_pos (nI_le (by omega) (by omega))]
/-- isLiving, by the row that is worked on -/
theorem f190N (hS : Sh σ) (hx : mrow (mI σ 105) n s) (hk : Ok n s) {p : Nat} (hp : p < 6) : f190 102 (nI p) σ = some (bo (tb (lv s) p), σ) := by
  unfold f190
  simp only [acM hS, Option.bind_some, litM, show 42 < 47 by omega, hx.2.2.1, f157N hk.lv64 hp, bo_Z]
theorem f191N (hS : Sh σ) (hx : mrow (mI σ 105) n s) {p q : Nat} (hp : p < 6) (hq : q < 6) : f191 102 (nI p) (nI q) σ = some (rM (rg s p q), σ) := by
  unfold f191
  simp only [acM hS, Option.bind_some, show (6 : Int32) = nI 6 from rfl, pk_mul, nI_add, show 6 + 6 * p + q < 47 by omega, hx.2.1 p hp q hq]
theorem heN_more {r : Nat → Option Nat} {ok : Nat → Bool} {n : Nat} : ∀ {j}, n ≤ j → (∀ i, n ≤ i → i < j → ok i = false) → heN r ok j = heN r ok n := by
  intro j
  induction j with
  | zero => intro h _; rw [show n = 0 by omega]
  | succ j ih =>
    intro h hc
    by_cases e : n = j + 1
    · rw [e]
    · simp only [heN, hc j (by omega) (by omega), ih (by omega) (fun i h1 h2 => hc i h1 (by omega))]
      simp
theorem rM_m1 {r : Option Nat} (h : ∀ x, r = some x → x < 2 ^ 31) : (rM r = -1) = (r = none) := by
  apply propext
  cases r with
  | none => exact ⟨fun _ => rfl, fun _ => rfl⟩
  | some x =>
    refine ⟨fun e => ?_, fun e => by cases e⟩
    have e : nI x = -1 := e
    have h1 := nI_pos (h x rfl)
    rw [e] at h1
    exact absurd (by decide) h1
/-- heirOf -/
theorem f192N (hT : hasT σ c) (hp : mI σ c 2 = nI n) (hx : mrow (mI σ 105) n s) (hk : Ok n s) {q : Nat} (hq : q < 6) : f192 102 (nI q) σ = some (ob (hei s q), σ) := by
  have h6 := hk.1
  have e0 : hei s q = heN (fun p => rg s p q) (fun p => decide (¬ p = q) && tb (lv s) p) n := heN_more h6 (fun i h1 h2 => by
    rw [tb_lt hk.2.1 h1]
    simp)
  rw [e0]
  have hlt : ∀ j k, heN (fun p => rg s p q) (fun p => decide (¬ p = q) && tb (lv s) p) j = some k → k < j ∧ ∃ h, rg s k q = some h := fun j k e => by
    have := (heN_congr (j := j) (fun i _ => ⟨rfl, rfl⟩)).2 k e
    exact ⟨this.1, this.2.2⟩
  unfold f192
  refine lp (fun m j => f192_5 m 102 (nI q) (ob (heN (fun p => rg s p q) (fun p => decide (¬ p = q) && tb (lv s) p) j)) (nI j) σ) n (fun j hj m r hn => ?_) (fun m => ?_) n 1100 0 (by omega) (by omega)
  · have hj6 : j < 6 := by omega
    simp only [heN] at hn
    show f192_5 (m + 1) _ _ _ _ _ = _
    unfold f192_5 f192_63 f192_65
    simp only [acM hT.1, acG hT, acT0 hT.2.1, Option.bind_some, hp, f190N hT.1 hx hk hj6, f191N hT.1 hx hj6 hq, bo_0, nI_1, rM_m1 (regb hk j q)]
    rw [if_neg (nI_ge hj (by omega))]
    by_cases e1 : j = q
    · rw [if_pos (by rw [e1])]
      simpa [e1] using hn
    · rw [if_neg (fun h => e1 ((nI_eq (by omega) (by omega)).mp h))]
      cases e2 : tb (lv s) j
      · simpa [e1, e2] using hn
      · rw [if_neg (by simp)]
        cases e3 : rg s j q with
        | none =>
          rw [if_pos rfl]
          have : ltO ((heN (fun p => rg s p q) (fun p => decide (¬ p = q) && tb (lv s) p) j).bind (fun p => rg s p q)) none = false := by
            cases (heN (fun p => rg s p q) (fun p => decide (¬ p = q) && tb (lv s) p) j).bind (fun p => rg s p q) <;> rfl
          simp only [e3, this] at hn
          simpa [e1, e2] using hn
        | some y =>
          rw [if_neg (by simp)]
          have hy := regb hk j q y e3
          cases e4 : heN (fun p => rg s p q) (fun p => decide (¬ p = q) && tb (lv s) p) j with
          | none =>
            rw [if_pos (show ob none = -2 from rfl)]
            simp only [e3, e4] at hn
            simpa [e1, e2, ob, ltO] using hn
          | some k =>
            obtain ⟨k1, x, k2⟩ := hlt j k e4
            have hx31 := regb hk k q x k2
            rw [if_neg (ob_ne (show k < 6 by omega)), ob_some, f191N hT.1 hx (show k < 6 by omega) hq, Option.bind_some, k2]
            simp only [show ∀ z, rM (some z) = nI z from fun _ => rfl, nI_leI hy hx31]
            simp only [e3, e4, Option.bind_some, k2, ltO] at hn
            by_cases e5 : y ≤ x
            · have : ¬ x < y := by omega
              rw [if_pos e5]
              simpa [e1, e2, this, ob] using hn
            · have : x < y := by omega
              rw [if_neg e5]
              simpa [e1, e2, this, ob] using hn
  · show f192_5 (m + 1) _ _ _ _ _ = _
    unfold f192_5 f192_71
    simp only [acG hT, acT0 hT.2.1, Option.bind_some, hp]
    rw [if_pos (nI_le (by omega) (by omega))]
end REF
