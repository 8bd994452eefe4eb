/-! THE CLASS'S ANSWERS, first half: what it writes in a call that asks; person .. catMean -/
/-- what a call that asks may write -/
def PcQ : Nat → Nat → Bool := fun a k => [29, 30, 31, 93, 95, 96, 97, 98, 99, 100, 101].any (fun b => Nat.beq a b) || (Nat.beq a 0 && Nat.beq k 8)
/-- the ways from house to house, as City.measureWays makes them -/
def wy0 (C : Cty) (i : Nat) : Nat := if i / 6 = i % 6 then 0 else if tb (nr C (i / 6)) (i % 6) then 1 else 1000
def fwS (b : Nat) : Nat → (Nat → Nat) → Nat → Nat
  | 0, w => w
  | j + 1, w => fun k => if k = j then min (fwS b j w j) (fwS b j w (j / 6 * 6 + b) + fwS b j w (b * 6 + j % 6)) else fwS b j w k
def fwB : Nat → (Nat → Nat) → Nat → Nat
  | 0, w => w
  | b + 1, w => fwS b 36 (fwB b w)
def wyF (C : Cty) : Nat → Nat := fwB 6 (wy0 C)
/-- the class as a call that asks finds it -/
def QC (σ : xM) (C : Cty) (s : Sta) : Prop := Sh σ ∧ mI σ 15 2 = nI (pe C) ∧ cS σ 26 (pe C) s ∧ Ok (pe C) s ∧ (0 < pe C → cC σ 15 C ∧ OkC C ∧ ∀ i, i < 36 → mI σ 22 i = nI (wyF C i))
theorem QC_upd {σ τ : xM} {C : Cty} {s : Sta} (hu : Upd PcQ σ τ) (h : QC σ C s) : QC τ C s := by
  obtain ⟨h1, h2, h3, h4, h5⟩ := h
  refine ⟨hu.sh h1, (hu.2.1 15 2 rfl).trans h2, cS_upd hu (fun _ => rfl) (fun _ => rfl) (fun _ => rfl) h3, h4, fun hp => ?_⟩
  obtain ⟨a, b, c⟩ := h5 hp
  refine ⟨cC_upd hu (fun i k hi => ?_) a, b, fun i hi => (hu.2.1 22 i rfl).trans (c i hi)⟩
  have : ∀ i, i ≤ 10 → PcQ (15 + i) k = false := by
    intro i hi
    rcases (by omega : i = 0 ∨ i = 1 ∨ i = 2 ∨ i = 3 ∨ i = 4 ∨ i = 5 ∨ i = 6 ∨ i = 7 ∨ i = 8 ∨ i = 9 ∨ i = 10) with e | e | e | e | e | e | e | e | e | e | e <;> subst e <;> rfl
  exact this i hi
def cQ {α : Type} (σ : xM) (o : Option (α × xM)) (a : α × Int32) : Prop := ∃ τ, o = some (a.1, τ) ∧ Upd PcQ σ τ ∧ mI τ 0 8 = a.2
theorem cQ_w {α : Type} {σ : xM} {x : α} {r : Int32} : cQ σ (some (x, wI σ 0 8 r)) (x, r) := ⟨_, rfl, Upd.refl.wI rfl, by rw [mI_w, if_pos ⟨rfl, rfl⟩]⟩
theorem cQ_wl {α : Type} {σ : xM} {x : α} {r : Int32} {s : Sta} : cQ σ (some (x, wl (wI σ 0 8 r) s)) (x, r) := ⟨_, rfl, wl_upd (Upd.refl.wI rfl) (fun _ => rfl), by
  unfold wl
  rw [mI_wr, if_neg (fun h => absurd h.1 (by decide)), mI_w, if_pos ⟨rfl, rfl⟩]⟩
theorem QC_w {σ : xM} {C : Cty} {s : Sta} (h : QC σ C s) (r : Int32) : QC (wI σ 0 8 r) C s := QC_upd (Upd.refl.wI rfl) h
theorem QC_wl {σ : xM} {C : Cty} {s : Sta} (h : QC σ C s) : QC (wl σ s) C s := QC_upd (wl_upd Upd.refl (fun _ => rfl)) h
theorem bo_ref (x : Int32) : (bo (decide (¬ x = 0)) = 0) = (x = 0) := by
  rw [bo_0]
  simp
theorem dec0 (x : Int32) : (decide (¬ x = 0) = false) = (x = 0) := by simp
def pN (p : Int32) : Nat := p.toNatClampNeg
theorem pN_nI {j : Nat} (h : j < 6) : pN (nI j) = j := nI_clamp (by omega)
theorem pN_64 {j : Nat} (h : j < 64) : pN (nI j) = j := nI_clamp (by omega)
theorem lvOr_0 {n : Nat} {s : Sta} (hk : Ok n s) {p : Int32} (h : lvOr n s p = 0) : ∃ j, j < n ∧ p = nI j ∧ tb (lv s) j = true := by
  unfold lvOr at h
  cases e : isP n p
  · rw [e, if_neg (by simp)] at h
    exact absurd h (by decide)
  · obtain ⟨j, hj, rfl⟩ := isP_nI hk.1 e
    have hj6 : j < 6 := by have := hk.1; omega
    rw [e, inN _ hk.lv64 _ hj6] at h
    refine ⟨j, hj, rfl, ?_⟩
    cases e2 : tb (lv s) j
    · rw [e2] at h
      exact absurd h (by decide)
    · rfl
theorem two_of {n : Nat} (hn : n ≤ 6) {p q : Int32} (h : two n p q = true) : ∃ i j, i < n ∧ j < n ∧ p = nI i ∧ q = nI j ∧ i ≠ j := by
  unfold two at h
  simp only [Bool.and_eq_true, decide_eq_true_eq] at h
  obtain ⟨i, hi, rfl⟩ := isP_nI hn h.1.1
  obtain ⟨j, hj, rfl⟩ := isP_nI hn h.1.2
  exact ⟨i, j, hi, hj, rfl, rfl, fun e => h.2 (by rw [e])⟩
-- the answers
def aReg (n : Nat) (s : Sta) (p q : Int32) : Int32 × Int32 := if two n p q then (rC (rg s (pN p) (pN q)), 0) else (-1, 1)
def aHeir (n : Nat) (s : Sta) (p : Int32) : Int32 × Int32 := if lvOr n s p = 0 then (ob (hN s (pN p)), 0) else (-1, lvOr n s p)
def aHto (n : Nat) (s : Sta) (p : Int32) : Int32 × Int32 := if isP n p then (nI (hto s (pN p)), 0) else (-1, 1)
def aHop (n : Nat) (s : Sta) (p : Int32) : Int32 × Int32 := if lvOr n s p = 0 then (nI (hasB s (hto s (pN p)) (pN p)), 0) else (-1, lvOr n s p)
def aCat (n : Nat) (s : Sta) : Int32 × Int32 := if 0 < n then (nI (ct s), 0) else (-1, 1)
def aRic (n : Nat) (s : Sta) : Int32 × Int32 := if 0 < n then (ob (riF (hs s) (tb (lv s)) 6), 0) else (-1, 1)
def aGo (n : Nat) (s : Sta) (p x : Int32) : Int32 × Int32 := if isP n p then (if lset s x && tb (pN x) (pN p) then (ob (enN s (pN x) (pN p)), 0) else (-1, 2)) else (-1, 1)
def aHt (n : Nat) (s : Sta) (p x : Int32) : Int32 × Int32 := if lvOr n s p = 0 then (if lset s x then (nI (hasB s (pN x) (pN p)), 0) else (-1, 2)) else (-1, lvOr n s p)
def aCt (n : Nat) (s : Sta) (x : Int32) : Int32 × Int32 := if 0 < n then (if lset s x then (nI (catT s (pN x)), 0) else (-1, 2)) else (-1, 1)
def rouN (s : Sta) : Nat := col (fun p => tb (lv s) p && rdF (hN s) p 6 (hN s p)) 6
def aRou (n : Nat) (s : Sta) : Int32 × Int32 := if 0 < n then (nI (rouN s), 0) else (-1, 1)
def worC (s : Sta) (p : Nat) : Bool := tb (lv s) p && (decide (¬ hN s p = none) && decide (0 < hs s p))
def aWor (n : Nat) (s : Sta) : Int32 × Int32 := if 0 < n then (ob (riF (hs s) (worC s) 6), 0) else (-1, 1)
def obP (b : Option Nat) : Int32 := match b with
  | none => -2
  | some B => nI B
def aPlo (n : Nat) (s : Sta) (p q : Int32) : Int32 × Int32 := if two n p q && (tb (lv s) (pN p) && tb (lv s) (pN q)) then (obP (bwN s (pN p) (pN q)), 0) else (-1, 1)
def aMea (C : Cty) (s : Sta) (p b : Int32) : Int64 × Int32 := if isP (pe C) p then (lN (fra (meN C s (pN p)) 1000000000000 b), 0) else (-1, 1)
def oddN (C : Cty) (s : Sta) (p much : Nat) : Nat := if much = 0 then 1000000000000 else if tb (lv s) p then sm (oddQ C s p much) 64 else 0
def aOdd (C : Cty) (s : Sta) (p x b : Int32) : Int64 × Int32 := if isP (pe C) p then (if x < 0 ∨ 594 < x then (-1, 2) else (lN (fra (oddN C s (pN p) (pN x)) 1000000000000 b), 0)) else (-1, 1)
def pasN (C : Cty) (s : Sta) (p q : Nat) : Nat := match bwN s p q with
  | none => 0
  | some B => lik C B (2 ^ q)
def aPas (C : Cty) (s : Sta) (p q b : Int32) : Int64 × Int32 := if two (pe C) p q then (lN (fra (pasN C s (pN p) (pN q)) 1000000000000 b), 0) else (-1, 1)
def aCme (C : Cty) (s : Sta) (b : Int32) : Int64 × Int32 := if 0 < pe C then (lN (fra (sm (cmQ C s) 6) 1000000000000 b), 0) else (-1, 1)
section CLASS
variable {σ : xM} {C : Cty} {s : Sta}
theorem c69 (h : QC σ C s) (p q : Int32) : cQ σ (f69 0 p q σ) (aReg (pe C) s p q) := by
  obtain ⟨hS, hp, hc, hk, hC⟩ := id h
  unfold f69 f69_15 aReg
  simp only [acC hS, Option.bind_some, f117_eq hS hk.1 hp, f114_eq hS, bo_0]
  cases e : two (pe C) p q
  · simpa [bo] using cQ_w
  · obtain ⟨i, j, hi, hj, rfl, rfl, hij⟩ := two_of hk.1 e
    have h6 := hk.1
    obtain ⟨hS1, -, hc1, -⟩ := QC_w h 0
    rw [if_neg (by simp), if_pos rfl, pN_nI (by omega), pN_nI (by omega)]
    simp only [bo_ref, if_true, acC hS1, f125_eq, nI_pair, Option.bind_some, show i * 6 + j < 36 by omega]
    rw [show mI (wI σ 0 8 0) 28 (i * 6 + j) = rC (rg s i j) from hc1.2.1 i (by omega) j (by omega)]
    exact cQ_w
theorem c70 (h : QC σ C s) (p : Int32) : cQ σ (f70 0 p σ) (aHeir (pe C) s p) := by
  obtain ⟨hS, hp, hc, hk, hC⟩ := id h
  unfold f70 aHeir
  simp only [acC hS, Option.bind_some, f119_eq hS hp hc hk, f114_eq hS, bo_ref]
  by_cases e : lvOr (pe C) s p = 0
  · obtain ⟨j, hj, rfl, hl⟩ := lvOr_0 hk e
    have hj6 : j < 6 := by have := hk.1; omega
    obtain ⟨hS1, -, hc1, -⟩ := QC_w h 0
    rw [if_pos e, if_pos e, pN_nI hj6, e]
    simp only [acC hS1, Option.bind_some, f129N hS1 hc1 hk, acC (wl_sh (s := s) hS1), hj6, wl_cH _ s j hj6]
    exact cQ_wl
  · rw [if_neg e, if_neg e]
    exact cQ_w
theorem c71 (h : QC σ C s) (p : Int32) : cQ σ (f71 0 p σ) (aHto (pe C) s p) := by
  obtain ⟨hS, hp, hc, hk, hC⟩ := id h
  unfold f71 f71_14 aHto
  simp only [acC hS, Option.bind_some, f116_eq hS hk.1 hp, f114_eq hS, bo_0]
  cases e : isP (pe C) p
  · simpa [bo] using cQ_w
  · obtain ⟨j, hj, rfl⟩ := isP_nI hk.1 e
    have hj6 : j < 6 := by have := hk.1; omega
    obtain ⟨hS1, -, hc1, -⟩ := QC_w h 0
    rw [if_neg (by simp), if_pos rfl, pN_nI hj6]
    simp only [bo_ref, if_true, acC hS1, Option.bind_some, f130N hS1 hc1 hk hj6]
    exact cQ_wl
theorem hto_lt (s : Sta) (p : Nat) : hto s p < 64 := col_lt _ 6 (by omega)
theorem hto_sub (s : Sta) (p : Nat) : sub (hto s p) (lv s) := fun i hi => by
  unfold hto at hi
  rw [tb_col] at hi
  simp only [Bool.and_eq_true] at hi
  exact hi.2.1
theorem c72 (h : QC σ C s) (p : Int32) : cQ σ (f72 0 p σ) (aHop (pe C) s p) := by
  obtain ⟨hS, hp, hc, hk, hC⟩ := id h
  unfold f72 aHop
  simp only [acC hS, Option.bind_some, f119_eq hS hp hc hk, f114_eq hS, bo_ref]
  by_cases e : lvOr (pe C) s p = 0
  · obtain ⟨j, hj, rfl, hl⟩ := lvOr_0 hk e
    have hj6 : j < 6 := by have := hk.1; omega
    obtain ⟨hS1, -, hc1, -⟩ := QC_w h 0
    obtain ⟨hS2, -, hc2, -⟩ := QC_wl (QC_w h 0)
    rw [if_pos e, if_pos e, pN_nI hj6, e]
    simp only [acC hS1, Option.bind_some, f130N hS1 hc1 hk hj6, acC hS2, f131N hS2 (wl_cH _ s) hc2 hk (hto_lt s j) (sub_n hk (hto_sub s j)) hj]
    exact cQ_wl
  · rw [if_neg e, if_neg e]
    exact cQ_w
theorem c73 (h : QC σ C s) : cQ σ (f73 0 σ) (aCat (pe C) s) := by
  obtain ⟨hS, hp, hc, hk, hC⟩ := id h
  unfold f73 f73_13 aCat
  simp only [acC hS, Option.bind_some, f115_eq hS hk.1 hp, f114_eq hS, bo_0]
  by_cases e : 0 < pe C
  · obtain ⟨hS1, -, hc1, -⟩ := QC_w h 0
    rw [if_neg (by simp [e]), if_pos e]
    simp only [bo_ref, if_true, acC hS1, Option.bind_some, hc1.2.2.2.1]
    exact cQ_w
  · rw [if_pos (by simp [e]), if_neg e]
    simpa [bo] using cQ_w
theorem c74 (h : QC σ C s) : cQ σ (f74 0 σ) (aRic (pe C) s) := by
  obtain ⟨hS, hp, hc, hk, hC⟩ := id h
  unfold f74 f74_13 aRic
  simp only [acC hS, Option.bind_some, f115_eq hS hk.1 hp, f114_eq hS, bo_0]
  by_cases e : 0 < pe C
  · obtain ⟨hS1, -, hc1, -⟩ := QC_w h 0
    rw [if_neg (by simp [e]), if_pos e]
    simp only [bo_ref, if_true, acC hS1, Option.bind_some, hc1.2.2.1, f128N hS1 hc1 hk hk.lv64 (fun p hp => hk.lvn hp)]
    exact cQ_w
  · rw [if_pos (by simp [e]), if_neg e]
    simpa [bo] using cQ_w
theorem c75 (h : QC σ C s) (p x : Int32) : cQ σ (f75 0 p x σ) (aGo (pe C) s p x) := by
  obtain ⟨hS, hp, hc, hk, hC⟩ := id h
  unfold f75 f75_33 f75_34 aGo
  simp only [acC hS, Option.bind_some, f116_eq hS hk.1 hp, f118_eq hS hc, f114_eq hS, bo_0]
  cases e : isP (pe C) p
  · simpa [bo] using cQ_w
  · obtain ⟨j, hj, rfl⟩ := isP_nI hk.1 e
    have hj6 : j < 6 := by have := hk.1; omega
    cases e2 : lset s x
    · simpa [bo] using cQ_w
    · obtain ⟨t, ht, rfl, hsub⟩ := lset_of hk.lv64 e2
      rw [if_neg (by simp), if_pos rfl, pN_nI hj6, pN_64 ht, if_neg (by simp)]
      simp only [f124N ht hj6, Option.bind_some, bo_0]
      cases e3 : tb t j
      · simpa [bo, acC hS, f114_eq hS] using cQ_w
      · obtain ⟨hS1, -, hc1, -⟩ := QC_w h 0
        obtain ⟨hS2, -, hc2, -⟩ := QC_wl (QC_w h 0)
        rw [if_neg (by simp)]
        simp only [acC hS, f114_eq hS, bo_ref, if_true, acC hS1, Option.bind_some, f129N hS1 hc1 hk, acC hS2, f59N hS2 (wl_cH _ s) ht hj6]
        exact cQ_wl
theorem c76 (h : QC σ C s) (p x : Int32) : cQ σ (f76 0 p x σ) (aHt (pe C) s p x) := by
  obtain ⟨hS, hp, hc, hk, hC⟩ := id h
  unfold f76 f76_28 aHt
  simp only [acC hS, Option.bind_some, f119_eq hS hp hc hk, f118_eq hS hc, f114_eq hS, bo_ref, bo_0, dec0]
  by_cases e : lvOr (pe C) s p = 0
  · obtain ⟨j, hj, rfl, hl⟩ := lvOr_0 hk e
    have hj6 : j < 6 := by have := hk.1; omega
    rw [if_pos e, if_pos e]
    cases e2 : lset s x
    · simpa using cQ_w
    · obtain ⟨t, ht, rfl, hsub⟩ := lset_of hk.lv64 e2
      obtain ⟨hS1, -, hc1, -⟩ := QC_w h 0
      obtain ⟨hS2, -, hc2, -⟩ := QC_wl (QC_w h 0)
      rw [if_neg (by simp), if_pos rfl, pN_nI hj6, pN_64 ht]
      simp only [if_true, acC hS1, Option.bind_some, f129N hS1 hc1 hk, acC hS2, f131N hS2 (wl_cH _ s) hc2 hk ht (sub_n hk hsub) hj]
      exact cQ_wl
  · rw [if_neg e, if_neg e, if_neg e]
    exact cQ_w
theorem c77 (h : QC σ C s) (x : Int32) : cQ σ (f77 0 x σ) (aCt (pe C) s x) := by
  obtain ⟨hS, hp, hc, hk, hC⟩ := id h
  unfold f77 f77_25 aCt
  simp only [acC hS, Option.bind_some, f115_eq hS hk.1 hp, f118_eq hS hc, f114_eq hS, bo_ref, bo_0, dec0]
  by_cases e : 0 < pe C
  · rw [if_neg (by simp [e]), if_pos e]
    cases e2 : lset s x
    · simpa using cQ_w
    · obtain ⟨t, ht, rfl, hsub⟩ := lset_of hk.lv64 e2
      obtain ⟨hS1, -, hc1, -⟩ := QC_w h 0
      obtain ⟨hS2, -, hc2, -⟩ := QC_wl (QC_w h 0)
      rw [if_neg (by simp), if_pos rfl, pN_64 ht]
      simp only [if_true, acC hS1, Option.bind_some, f129N hS1 hc1 hk]
      have hL : f77_42 1100 0 (nI t) 0 0 (wl (wI σ 0 8 0) s) = some (nI (catT s t), wl (wI σ 0 8 0) s) := by
        have hH2 := wl_cH (wI σ 0 8 0) s
        generalize wl (wI σ 0 8 0) s = τ at hS2 hc2 hH2
        unfold catT
        refine lp (fun m j => f77_42 m 0 (nI t) (nI (sm (fun q => if tb t q && decide (enN s t q = none) then hs s q else 0) j)) (nI j) τ) 6 (fun j hj m r hn => ?_) (fun m => ?_) 6 1100 0 rfl (by omega)
        · simp only [sm] at hn
          show f77_42 (m + 1) _ _ _ _ _ = _
          unfold f77_42 f77_82
          rw [if_neg (show ¬ (6 : Int32) ≤ nI j from nI_ge (b := 6) hj (by omega))]
          simp only [acC hS2, Option.bind_some, f124N ht hj, f59N hS2 hH2 ht hj, bo_0, hj, nI_1, ob_m2 (fun k e => enN_6 e)]
          cases e1 : tb t j
          · simpa [e1] using hn
          · rw [if_neg (by simp), show mI τ 27 j = nI (hs s j) from hc2.1 j (hk.lvn (hsub j e1)), nI_add]
            by_cases e3 : enN s t j = none
            · rw [if_pos e3]
              simpa [e1, e3] using hn
            · rw [if_neg e3]
              simpa [e1, e3] using hn
        · show f77_42 (m + 1) _ _ _ _ _ = _
          unfold f77_42 f77_88
          rw [if_pos (show (6 : Int32) ≤ nI 6 by decide)]
      rw [hL]
      exact cQ_wl
  · rw [if_pos (by simp [e]), if_neg e]
    simpa using cQ_w
theorem c78 (h : QC σ C s) : cQ σ (f78 0 σ) (aRou (pe C) s) := by
  obtain ⟨hS, hp, hc, hk, hC⟩ := id h
  unfold f78 f78_13 aRou
  simp only [acC hS, Option.bind_some, f115_eq hS hk.1 hp, f114_eq hS, bo_ref, bo_0, dec0]
  by_cases e : 0 < pe C
  · rw [if_neg (by simp [e]), if_pos e]
    obtain ⟨hS1, -, hc1, -⟩ := QC_w h 0
    obtain ⟨hS2, -, hc2, -⟩ := QC_wl (QC_w h 0)
    simp only [if_true, acC hS1, Option.bind_some, f129N hS1 hc1 hk]
    have hL : f78_30 1100 0 0 0 (wl (wI σ 0 8 0) s) = some (nI (rouN s), wl (wI σ 0 8 0) s) := by
      have hH2 := wl_cH (wI σ 0 8 0) s
      generalize wl (wI σ 0 8 0) s = τ at hS2 hc2 hH2
      unfold rouN
      refine lp (fun m j => f78_30 m 0 (nI (col (fun p => tb (lv s) p && rdF (hN s) p 6 (hN s p)) j)) (nI j) τ) 6 (fun j hj m r hn => ?_) (fun m => ?_) 6 1100 0 rfl (by omega)
      · simp only [col] at hn
        show f78_30 (m + 1) _ _ _ _ = _
        unfold f78_30 f78_64
        rw [if_neg (show ¬ (6 : Int32) ≤ nI j from nI_ge (b := 6) hj (by omega))]
        simp only [acC hS2, Option.bind_some, f48_26 hS2 hc2 hk hj, f62N hS2 hH2 hj, bo_0, nI_1]
        cases e1 : tb (lv s) j
        · simpa [e1] using hn
        · cases e2 : rdF (hN s) j 6 (hN s j)
          · simpa [e1, e2] using hn
          · simpa [e1, e2, orN _ (col_lt _ j (show j ≤ 6 by omega)) j hj] using hn
      · show f78_30 (m + 1) _ _ _ _ = _
        unfold f78_30 f78_70
        rw [if_pos (show (6 : Int32) ≤ nI 6 by decide)]
    rw [hL]
    exact cQ_wl
  · rw [if_pos (by simp [e]), if_neg e]
    simpa using cQ_w
theorem c79 (h : QC σ C s) : cQ σ (f79 0 σ) (aWor (pe C) s) := by
  obtain ⟨hS, hp, hc, hk, hC⟩ := id h
  unfold f79 f79_13 aWor
  simp only [acC hS, Option.bind_some, f115_eq hS hk.1 hp, f114_eq hS, bo_ref, bo_0, dec0]
  by_cases e : 0 < pe C
  · rw [if_neg (by simp [e]), if_pos e]
    obtain ⟨hS1, -, hc1, -⟩ := QC_w h 0
    obtain ⟨hS2, -, hc2, -⟩ := QC_wl (QC_w h 0)
    simp only [if_true, acC hS1, Option.bind_some, f129N hS1 hc1 hk]
    have hL : f79_33 1100 0 (-2) 0 0 (wl (wI σ 0 8 0) s) = some (ob (riF (hs s) (worC s) 6), wl (wI σ 0 8 0) s) := by
      have hH2 := wl_cH (wI σ 0 8 0) s
      generalize wl (wI σ 0 8 0) s = τ at hS2 hc2 hH2
      refine lp (fun m j => f79_33 m 0 (ob (riF (hs s) (worC s) j)) (match riF (hs s) (worC s) j with | none => 0 | some k => nI (hs s k)) (nI j) τ) 6 (fun j hj m r hn => ?_) (fun m => ?_) 6 1100 0 rfl (by omega)
      · simp only [riF] at hn
        show f79_33 (m + 1) _ _ _ _ _ = _
        unfold f79_33 f79_89
        rw [if_neg (show ¬ (6 : Int32) ≤ nI j from nI_ge (b := 6) hj (by omega))]
        simp only [acC hS2, Option.bind_some, f48_26 hS2 hc2 hk hj, bo_0, hj, nI_1, hH2 j hj, ob_m2 (hN_6 s j)]
        rw [show worC s j = (tb (lv s) j && (decide (¬ hN s j = none) && decide (0 < hs s j))) from rfl] at hn
        cases e1 : tb (lv s) j
        · simpa [e1] using hn
        · have hjn := hk.lvn e1
          have h594 := hk.has hjn
          rw [if_neg (by simp), show mI τ 27 j = nI (hs s j) from hc2.1 j hjn]
          by_cases e2 : hN s j = none
          · rw [if_pos e2]
            simpa [e1, e2] using hn
          · rw [if_neg e2]
            cases e3 : riF (hs s) (worC s) j with
            | none =>
              simp only [e3, e1, e2, mor] at hn
              simp only [show (0 : Int32) = nI 0 from rfl, nI_leI (show hs s j < 2 ^ 31 by omega) (show 0 < 2 ^ 31 by omega)]
              by_cases e4 : hs s j ≤ 0
              · have e5 : ¬ 0 < hs s j := by omega
                rw [if_pos e4]
                simpa [e5, nI_0] using hn
              · have e5 : 0 < hs s j := by omega
                rw [if_neg e4]
                simpa [e5, ob] using hn
            | some k =>
              obtain ⟨k1, k2⟩ := (riF_congr (v2 := hs s) (c2 := worC s) (fun i _ => ⟨rfl, fun _ => rfl⟩)).2 k e3
              have hkl : tb (lv s) k = true := by
                unfold worC at k2
                rw [Bool.and_eq_true] at k2
                exact k2.1
              have h594k := hk.has (hk.lvn hkl)
              simp only [e3, e1, e2, mor] at hn
              simp only [nI_leI (show hs s j < 2 ^ 31 by omega) (show hs s k < 2 ^ 31 by omega)]
              by_cases e4 : hs s j ≤ hs s k
              · have e5 : ¬ hs s k < hs s j := by omega
                rw [if_pos e4]
                simpa [e5] using hn
              · have e5 : hs s k < hs s j := by omega
                have e6 : 0 < hs s j := by omega
                rw [if_neg e4]
                simpa [e5, e6, ob] using hn
      · show f79_33 (m + 1) _ _ _ _ _ = _
        unfold f79_33 f79_95
        rw [if_pos (show (6 : Int32) ≤ nI 6 by decide)]
    rw [hL]
    exact cQ_wl
  · rw [if_pos (by simp [e]), if_neg e]
    simpa using cQ_w
theorem c80 (h : QC σ C s) (p q : Int32) : cQ σ (f80 0 p q σ) (aPlo (pe C) s p q) := by
  obtain ⟨hS, hp, hc, hk, hC⟩ := id h
  unfold f80 f80_36 f80_37 aPlo
  simp only [acC hS, Option.bind_some, f117_eq hS hk.1 hp, f114_eq hS, bo_ref, bo_0, dec0]
  cases e : two (pe C) p q
  · simpa using cQ_w
  · obtain ⟨i, j, hi, hj, rfl, rfl, hij⟩ := two_of hk.1 e
    have h6 := hk.1
    have hi6 : i < 6 := by omega
    have hj6 : j < 6 := by omega
    rw [if_neg (by simp), pN_nI hi6, pN_nI hj6]
    simp only [f48_26 hS hc hk hi6, f48_26 hS hc hk hj6, Option.bind_some, bo_0, acC hS, f114_eq hS, bo_ref]
    cases e1 : tb (lv s) i
    · simpa using cQ_w
    · cases e2 : tb (lv s) j
      · simpa using cQ_w
      · obtain ⟨hS1, -, hc1, -⟩ := QC_w h 0
        obtain ⟨hS2, -, hc2, -⟩ := QC_wl (QC_w h 0)
        simp only [if_true, acC hS1, Option.bind_some, f129N hS1 hc1 hk, acC hS2, f60N hS2 (wl_cH _ s) hi6 hj6, obB_m1 (fun B e => (bw_live e hi6 e1).1), f80_66, Bool.and_self, reduceCtorEq, if_false]
        cases e3 : bwN s i j with
        | none => simpa [obP] using cQ_wl
        | some B => simpa [obP, obB] using cQ_wl
theorem fra_c {x : Nat} (b : Int32) : (if b = 0 then x / Nat.gcd 1000000000000 x else 1000000000000 / Nat.gcd 1000000000000 x) = fra x 1000000000000 b := by
  unfold fra
  rw [Nat.gcd_comm]
theorem c81 (h : QC σ C s) (p b : Int32) : cQ σ (f81 0 p b σ) (aMea C s p b) := by
  obtain ⟨hS, hp, hc, hk, hC⟩ := id h
  unfold f81 f81_14 aMea
  simp only [acC hS, Option.bind_some, f116_eq hS hk.1 hp, f114_eq hS, bo_ref, bo_0, dec0]
  cases e : isP (pe C) p
  · simpa using cQ_w
  · obtain ⟨j, hj, rfl⟩ := isP_nI hk.1 e
    have hj6 : j < 6 := by have := hk.1; omega
    obtain ⟨hS1, -, hc1, -, hC1⟩ := QC_w h 0
    obtain ⟨hC1, hO, -⟩ := hC1 (by omega)
    rw [if_neg (by simp), if_pos rfl, pN_nI hj6]
    simp only [if_true, acC hS1, Option.bind_some, f133N (Or.inl rfl) hS1 hC1 hO hc1 hk hj, f135N _ (Nat.lt_of_le_of_lt (me_le hO hk j) (by decide)), fra_c]
    exact cQ_wl
theorem odd_le {p much : Nat} (hO : OkC C) (hk : Ok (pe C) s) : oddN C s p much ≤ 64 * 1000000000000 := by
  unfold oddN
  split
  · decide
  · split
    · refine Nat.le_trans (sm_le (g := fun _ => 1000000000000) (fun t ht => ?_)) (by decide)
      unfold oddQ
      split
      · rename_i hc
        rw [Bool.and_eq_true] at hc
        exact lik_le hO (sub_n hk ((lset_nI hk.lv64 ht).mp hc.1))
      · exact Nat.zero_le _
    · exact Nat.zero_le _
theorem c82 (h : QC σ C s) (p x b : Int32) : cQ σ (f82 0 p x b σ) (aOdd C s p x b) := by
  obtain ⟨hS, hp, hc, hk, hC⟩ := id h
  unfold f82 f82_15 f82_16 f82_41 aOdd
  simp only [acC hS, Option.bind_some, f116_eq hS hk.1 hp, f114_eq hS, bo_ref, bo_0, dec0]
  cases e : isP (pe C) p
  · by_cases e1 : x < 0
    · simpa [e1] using cQ_w
    · by_cases e2 : 594 < x
      · simpa [e1, e2] using cQ_w
      · simpa [e1, e2] using cQ_w
  · obtain ⟨j, hj, rfl⟩ := isP_nI hk.1 e
    have hj6 : j < 6 := by have := hk.1; omega
    by_cases e1 : x < 0
    · simpa [e1] using cQ_w
    · by_cases e2 : 594 < x
      · simpa [e1, e2] using cQ_w
      · obtain ⟨m, hm, rfl⟩ := nI_of2 (M := 594) (n := 594) rfl e1 (Int32.not_lt.mp e2)
        obtain ⟨hS1, -, hc1, -, hC1⟩ := QC_w h 0
        obtain ⟨hC1, hO, -⟩ := hC1 (by omega)
        obtain ⟨τ, hτ, hf⟩ := f134N hS1 hC1 hO hc1 hk hj hm
        rw [if_neg e1, if_neg e2, if_neg (by simp), if_pos rfl, if_neg (show ¬ (nI m < 0 ∨ 594 < nI m) from fun h => h.elim e1 e2), pN_nI hj6, show pN (nI m) = m from nI_clamp (by omega)]
        simp only [if_true, acC hS1, Option.bind_some, hf, show ((1 : Int32) = 0) = False from eq_false (by decide), if_false, dec0]
        rw [show (if m = 0 then 1000000000000 else if tb (lv s) j then sm (oddQ C s j m) 64 else 0) = oddN C s j m from rfl, f135N τ (Nat.lt_of_le_of_lt (odd_le hO hk) (by decide)), Option.bind_some, fra_c]
        rcases hτ with rfl | rfl
        · exact cQ_w
        · exact cQ_wl
theorem c83 (h : QC σ C s) (p q b : Int32) : cQ σ (f83 0 p q b σ) (aPas C s p q b) := by
  obtain ⟨hS, hp, hc, hk, hC⟩ := id h
  unfold f83 f83_15 f83_55 aPas
  simp only [acC hS, Option.bind_some, f117_eq hS hk.1 hp, f114_eq hS, bo_ref, bo_0, dec0]
  cases e : two (pe C) p q
  · simpa using cQ_w
  · obtain ⟨i, j, hi, hj, rfl, rfl, hij⟩ := two_of hk.1 e
    have h6 := hk.1
    have hi6 : i < 6 := by omega
    have hj6 : j < 6 := by omega
    obtain ⟨hS1, -, hc1, -, hC1⟩ := QC_w h 0
    obtain ⟨hC1, hO, -⟩ := hC1 (by omega)
    obtain ⟨hS2, -, hc2, -, hC2⟩ := QC_wl (QC_w h 0)
    obtain ⟨hC2, -, -⟩ := hC2 (by omega)
    have hB : ∀ B, bwN s i j = some B → B < 64 ∧ ∀ x, tb B x = true → tb (lv s) x = true := fun B eB => by
      cases el : tb (lv s) i
      · exfalso
        unfold bwN btF at eB
        rw [if_neg hij, show hN s i = none by unfold hN; rw [el]; rfl] at eB
        cases eB
      · exact bw_live eB hi6 el
    rw [if_neg (by simp), if_pos rfl, pN_nI hi6, pN_nI hj6]
    simp only [if_true, acC hS1, Option.bind_some, f129N hS1 hc1 hk, acC hS2, f60N hS2 (wl_cH _ s) hi6 hj6, obB_m1 (fun B e => (hB B e).1), shlN j hj6]
    unfold pasN
    cases e3 : bwN s i j with
    | none =>
      rw [if_pos rfl, show (0 : Int64) = lN 0 from rfl, f135N _ (by decide), Option.bind_some, fra_c]
      exact cQ_wl
    | some B =>
      obtain ⟨b1, b2⟩ := hB B e3
      have hl := f132N hS2 hC2 hO b1 (pow64 hj6) (fun x hx => hk.lvn (b2 x hx)) (fun x hx => by rw [tb_pow, decide_eq_true_eq] at hx; omega)
      rw [if_pos (by simp), if_neg (show ¬ some B = none by simp), show obB (some B) = nI B from rfl, hl, Option.bind_some]
      simp only
      rw [f135N _ (Nat.lt_of_le_of_lt (lik_le hO (fun x hx => hk.lvn (b2 x hx))) (by decide)), Option.bind_some, fra_c]
      exact cQ_wl
theorem cm_le (hO : OkC C) (hk : Ok (pe C) s) : sm (cmQ C s) 6 ≤ 594 * 1000000000000 := by
  have h6 := hk.1
  have h1 : sm (cmQ C s) 6 ≤ sm (fun q => (if decide (q < pe C) then hs s q else 0) * 1000000000000) 6 := by
    refine sm_le (fun q hq => ?_)
    unfold cmQ
    split
    · rename_i hc
      rw [if_pos (decide_eq_true (hk.lvn hc))]
      exact Nat.mul_le_mul_left _ (lik_le hO (fun x hx => hk.lvn ((uc_live hq hc).2 x hx)))
    · exact Nat.zero_le _
  rw [sm_mulr] at h1
  have h2 : sm (fun q => if decide (q < pe C) then hs s q else 0) 6 = sm (hs s) (pe C) := by
    rw [sm_more (a := pe C) h6 (fun i h1 _ => by rw [if_neg (by simp; omega)])]
    exact sm_congr (fun i hi => by rw [if_pos (decide_eq_true hi)])
  have h3 := hk.2.2.2.1
  rw [h2] at h1
  exact Nat.le_trans h1 (Nat.mul_le_mul_right _ (by omega))
theorem c84 (h : QC σ C s) (b : Int32) : cQ σ (f84 0 b σ) (aCme C s b) := by
  obtain ⟨hS, hp, hc, hk, hC⟩ := id h
  unfold f84 f84_13 aCme
  simp only [acC hS, Option.bind_some, f115_eq hS hk.1 hp, f114_eq hS, bo_ref, bo_0, dec0]
  by_cases e : 0 < pe C
  · rw [if_neg (by simp [e]), if_pos e]
    obtain ⟨hS1, -, hc1, -⟩ := QC_w h 0
    obtain ⟨hS2, -, hc2, -, hC2⟩ := QC_wl (QC_w h 0)
    obtain ⟨hC2, hO, -⟩ := hC2 e
    simp only [if_true, acC hS1, Option.bind_some, f129N hS1 hc1 hk]
    have hL : f84_33 1100 0 b 0 0 (wl (wI σ 0 8 0) s) = some (lN (fra (sm (cmQ C s) 6) 1000000000000 b), wl (wI σ 0 8 0) s) := by
      have hH2 := wl_cH (wI σ 0 8 0) s
      generalize wl (wI σ 0 8 0) s = τ at hS2 hc2 hH2 hC2
      refine lp (fun m j => f84_33 m 0 b (lN (sm (cmQ C s) j)) (nI j) τ) 6 (fun j hj m r hn => ?_) (fun m => ?_) 6 1100 0 rfl (by omega)
      · simp only [sm] at hn
        show f84_33 (m + 1) _ _ _ _ _ = _
        unfold f84_33 f84_81
        rw [if_neg (show ¬ (6 : Int32) ≤ nI j from nI_ge (b := 6) hj (by omega))]
        simp only [acC hS2, Option.bind_some, f48_26 hS2 hc2 hk hj, f61N hS2 hH2 hj, bo_0, hj, nI_1]
        rw [show cmQ C s j = if tb (lv s) j then hs s j * lik C (ucN s j) 0 else 0 from rfl] at hn
        cases e1 : tb (lv s) j
        · simpa [e1] using hn
        · have hjn := hk.lvn e1
          have h594 := hk.has hjn
          obtain ⟨u1, u2⟩ := uc_live hj e1
          have hl := f132N hS2 hC2 hO u1 (show 0 < 64 by omega) (fun x hx => hk.lvn (u2 x hx)) (fun x hx => by rw [tb_0] at hx; cases hx)
          rw [if_neg (by simp), show mI τ 27 j = nI (hs s j) from hc2.1 j hjn, show (0 : Int32) = nI 0 from rfl, hl, Option.bind_some]
          simp only
          rw [nI_l (by omega), lN_mul, lN_add]
          simpa [e1] using hn
      · show f84_33 (m + 1) _ _ _ _ _ = _
        unfold f84_33 f84_87
        rw [if_pos (show (6 : Int32) ≤ nI 6 by decide), f135N _ (Nat.lt_of_le_of_lt (cm_le hO hk) (by decide)), Option.bind_some, fra_c]
    rw [hL]
    exact cQ_wl
  · rw [if_pos (by simp [e]), if_neg e]
    simpa using cQ_w
end CLASS
