/-! BOTH: person, toAsk, rivals -/
/-- the first of those from j on that are so -/
def fs (c : Nat → Bool) : Nat → Nat → Option Nat
  | _, 0 => none
  | j, m + 1 => if c j then some j else fs c (j + 1) m
theorem lpE {γ : Type} (G : Nat → Nat → Option γ) (N : Nat) (c : Nat → Bool) (out : Option Nat → Option γ) (hs : ∀ j, j < N → c j = false → ∀ n q, G n (j + 1) = q → G (n + 1) j = q) (hx : ∀ j, j < N → c j = true → ∀ n, G (n + 1) j = out (some j)) (he : ∀ n, G (n + 1) N = out none) : ∀ (m n j : Nat), j + m = N → m + 1 ≤ n → G n j = out (fs c j m) := by
  intro m
  induction m with
  | zero =>
    intro n j hj hn
    obtain ⟨n, rfl⟩ : ∃ k, n = k + 1 := ⟨n - 1, by omega⟩
    rw [show j = N by omega]
    exact he n
  | succ m ih =>
    intro n j hj hn
    obtain ⟨n, rfl⟩ : ∃ k, n = k + 1 := ⟨n - 1, by omega⟩
    unfold fs
    cases e : c j
    · rw [if_neg (by simp)]
      exact hs j (by omega) e n _ (ih n (j + 1) (by omega) (by omega))
    · rw [if_pos rfl]
      exact hx j (by omega) e n
theorem fs_more {c : Nat → Bool} : ∀ (m k j : Nat), (∀ i, j + m ≤ i → i < j + m + k → c i = false) → fs c j (m + k) = fs c j m := by
  intro m
  induction m with
  | zero =>
    intro k
    induction k with
    | zero => intro j _; rfl
    | succ k ih =>
      intro j h
      rw [Nat.zero_add] at ih ⊢
      unfold fs
      rw [h j (by omega) (by omega), if_neg (by simp)]
      have := ih (j + 1) (fun i h1 h2 => h i (by omega) (by omega))
      rw [this]
      rfl
  | succ m ih =>
    intro k j h
    rw [show m + 1 + k = (m + k) + 1 by omega]
    unfold fs
    cases e : c j
    · rw [if_neg (by simp), if_neg (by simp)]
      exact ih k (j + 1) (fun i h1 h2 => h i (by omega) (by omega))
    · rfl
theorem fs_lt {c : Nat → Bool} : ∀ (m j k : Nat), fs c j m = some k → k < j + m ∧ c k = true := by
  intro m
  induction m with
  | zero => intro j k e; cases e
  | succ m ih =>
    intro j k e
    unfold fs at e
    split at e
    · rename_i hc
      cases e
      exact ⟨by omega, hc⟩
    · have := ih _ _ e
      exact ⟨by omega, this.2⟩
theorem fs_congr {c d : Nat → Bool} : ∀ (m j : Nat), (∀ i, j ≤ i → i < j + m → c i = d i) → fs c j m = fs d j m := by
  intro m
  induction m with
  | zero => intro j _; rfl
  | succ m ih =>
    intro j h
    unfold fs
    rw [h j (by omega) (by omega), ih (j + 1) (fun i h1 h2 => h i (by omega) (by omega))]
/-- who can ask p -/
def askr (C : Cty) (s : Sta) (p : Nat) : Nat := col (fun q => tb (lv s) p && (tb (lv s) q && alw C q p)) 6
def perV (C : Cty) (s : Sta) (j : Nat) (w : Int32) : Int32 := if w = 0 then nI (kd C j) else if w = 1 then nI (hs s j) else if w = 2 then nI (dz C j) else if w = 3 then bo (tb (lv s) j) else if w = 4 then nI (nr C j) else if w = 5 then nI (aska C s j) else nI (askr C s j)
def aPer (C : Cty) (s : Sta) (p w : Int32) : Int32 × Int32 := if isP (pe C) p then (if w < 0 ∨ 6 < w then (-1, 1) else (perV C s (pN p) w, 0)) else (-1, 1)
/-- whom p asks best: the richest whose heir he isn't yet -/
def toaC (C : Cty) (s : Sta) (p q : Nat) : Bool := tb (aska C s p) q && !tb (hto s p) q
def aToa (C : Cty) (s : Sta) (p : Int32) : Int32 × Int32 := if isP (pe C) p then (ob (riF (hs s) (toaC C s (pN p)) 6), 0) else (-1, 1)
def rivC (s : Sta) (p o q : Nat) : Bool := decide (¬ q = p) && (tb (lv s) q && (ltO (rg s p o) (rg s q o) || (decide (rg s q o = rg s p o) && decide (q < p))))
def aRiv (n : Nat) (s : Sta) (p q : Int32) : Int32 × Int32 := if two n p q then (if tb (lv s) (pN q) then (if tb (lv s) (pN p) && decide (¬ rg s (pN p) (pN q) = none) then (nI (col (rivC s (pN p) (pN q)) 6), 0) else (-2, 0)) else (-1, 5)) else (-1, 1)
section CLASS
variable {σ : xM} {C : Cty} {s : Sta}
theorem f127_eq (hS : Sh σ) (hC : cC σ 15 C) (hO : OkC C) (hc : cS σ 26 (pe C) s) (hk : Ok (pe C) s) {p : Nat} (hp : p < pe C) : f127 0 (nI p) σ = some (nI (askr C s p), σ) := by
  have h6 := hO.1
  unfold f127 askr
  refine lp (fun m j => f127_4 m 0 (nI p) (nI (col (fun q => tb (lv s) p && (tb (lv s) q && alw C q p)) j)) (nI j) σ) 6 (fun j hj m r hn => ?_) (fun m => ?_) 6 1100 0 rfl (by omega)
  · simp only [col] at hn
    show f127_4 (m + 1) _ _ _ _ _ = _
    unfold f127_4 f127_50
    rw [if_neg (show ¬ (6 : Int32) ≤ nI j from nI_ge (b := 6) hj (by omega))]
    simp only [acC hS, Option.bind_some, f48_26 hS hc hk hj, f48_26 hS hc hk (show p < 6 by omega), bo_0, nI_1]
    cases e1 : tb (lv s) p
    · simpa [e1] using hn
    · cases e2 : tb (lv s) j
      · simpa [e1, e2] using hn
      · rw [f4_eq hS hC hO (hk.lvn e2) hp]
        simp only [Option.bind_some, bo_0]
        cases e3 : alw C j p
        · simpa [e1, e2, e3] using hn
        · simpa [e1, e2, e3, orN _ (col_lt _ j (show j ≤ 6 by omega)) j hj] using hn
  · show f127_4 (m + 1) _ _ _ _ _ = _
    unfold f127_4 f127_56
    rw [if_pos (show (6 : Int32) ≤ nI 6 by decide)]
theorem c68 (h : QC σ C s) (p w : Int32) : cQ σ (f68 0 p w σ) (aPer C s p w) := by
  obtain ⟨hS, hp, hc, hk, hC⟩ := id h
  unfold f68 f68_23 f68_24 aPer
  simp only [acC hS, Option.bind_some, f116_eq hS hk.1 hp, f114_eq hS, bo_ref, bo_0]
  cases e : isP (pe C) p
  · simpa using cQ_w
  · obtain ⟨j, hj, rfl⟩ := isP_nI hk.1 e
    have hj6 : j < 6 := by have := hk.1; omega
    rw [if_neg (by simp), if_pos rfl]
    by_cases e1 : w < 0
    · rw [if_pos e1, if_pos (Or.inl e1)]
      simpa using cQ_w
    · rw [if_neg e1]
      by_cases e2 : 6 < w
      · rw [if_pos e2, if_pos (Or.inr e2)]
        simpa using cQ_w
      · obtain ⟨hS1, -, hc1, -, hC1⟩ := QC_w h 0
        obtain ⟨hC1, hO, -⟩ := hC1 (by omega)
        have k1 : mI (wI σ 0 8 0) 16 j = nI (kd C j) := (hC1.2.1 j hj).1
        have k2 : mI (wI σ 0 8 0) 27 j = nI (hs s j) := hc1.1 j hj
        have k3 : mI (wI σ 0 8 0) 18 j = nI (dz C j) := (hC1.2.1 j hj).2.2
        have k4 : mI (wI σ 0 8 0) 19 j = nI (nr C j) := (hC1.2.2.1 j hj6).1
        rw [if_neg e2, if_neg (show ¬ (w < 0 ∨ 6 < w) from fun h => h.elim e1 e2), if_pos (by simp), pN_nI hj6]
        unfold perV f68_118
        simp only [acC hS1, Option.bind_some, hj6, k1, k2, k3, k4, f48_26 hS1 hc1 hk hj6, bo_0, f126_eq hS1 hC1 hO hc1 hk hj, f127_eq hS1 hC1 hO hc1 hk hj]
        by_cases w0 : w = 0
        · simpa [w0] using cQ_w
        · by_cases w1 : w = 1
          · simpa [w1] using cQ_w
          · by_cases w2 : w = 2
            · simpa [w2] using cQ_w
            · by_cases w3 : w = 3
              · cases tb (lv s) j
                · simpa [w3, bo] using cQ_w
                · simpa [w3, bo] using cQ_w
              · by_cases w4 : w = 4
                · simpa [w4] using cQ_w
                · by_cases w5 : w = 5
                  · simpa [w5] using cQ_w
                  · simpa [w0, w1, w2, w3, w4, w5] using cQ_w
theorem aska_lt (C : Cty) (s : Sta) (p : Nat) : aska C s p < 64 := col_lt _ 6 (by omega)
theorem aska_sub (C : Cty) (s : Sta) (p : Nat) : sub (aska C s p) (lv s) := fun i hi => by
  unfold aska at hi
  rw [tb_col] at hi
  simp only [Bool.and_eq_true] at hi
  exact hi.2.2.1
theorem c90 (h : QC σ C s) (p : Int32) : cQ σ (f90 0 p σ) (aToa C s p) := by
  obtain ⟨hS, hp, hc, hk, hC⟩ := id h
  unfold f90 f90_14 aToa
  simp only [acC hS, Option.bind_some, f116_eq hS hk.1 hp, f114_eq hS, bo_ref, bo_0]
  cases e : isP (pe C) p
  · simpa using cQ_w
  · obtain ⟨j, hj, rfl⟩ := isP_nI hk.1 e
    have hj6 : j < 6 := by have := hk.1; omega
    obtain ⟨hS1, -, hc1, -, hC1⟩ := QC_w h 0
    obtain ⟨hC1, hO, -⟩ := hC1 (by omega)
    obtain ⟨hS2, -, hc2, -⟩ := QC_wl (QC_w h 0)
    have ha := aska_lt C s j
    have hh := hto_lt s j
    have hr := f128N hS2 hc2 hk (dif_lt (t := hto s j) ha) (fun q hq => by
      by_cases h : q < 6
      · rw [tb_dif hh h, Bool.and_eq_true] at hq
        exact hk.lvn (aska_sub C s j q hq.1)
      · rw [tb_lt (k := 6) (dif_lt ha) (by omega)] at hq
        cases hq)
    rw [if_neg (by simp), if_pos rfl, pN_nI hj6]
    simp only [if_true, acC hS1, Option.bind_some, f126_eq hS1 hC1 hO hc1 hk hj, f130N hS1 hc1 hk hj6, acC hS2, difN _ ha _ hh, hr]
    rw [(riF_congr (v2 := hs s) (c2 := toaC C s j) (j := 6) (fun i hi => ⟨tb_dif hh hi, fun _ => rfl⟩)).1]
    exact cQ_wl
theorem rC_m2 {r : Option Nat} (h : ∀ x, r = some x → x < 2 ^ 31) : (rC r = -2) = (r = none) := by
  apply propext
  cases r with
  | none => exact ⟨fun _ => rfl, fun _ => rfl⟩
  | some x =>
    refine ⟨fun e => ?_, fun e => by cases e⟩
    have e : nI x = -2 := e
    have h1 := nI_pos (h x rfl)
    rw [e] at h1
    exact absurd (by decide) h1
theorem rC_inj {a b : Option Nat} (ha : ∀ x, a = some x → x < 2 ^ 31) (hb : ∀ x, b = some x → x < 2 ^ 31) : (rC a = rC b) = (a = b) := by
  apply propext
  cases a with
  | none =>
    refine ⟨fun e => ?_, fun e => by rw [e]⟩
    have := rC_m2 hb
    rw [← show rC none = -2 from rfl] at this
    exact (this.mp e.symm).symm
  | some x =>
    cases b with
    | none =>
      refine ⟨fun e => ?_, fun e => by rw [e]⟩
      have := rC_m2 ha
      rw [← show rC none = -2 from rfl] at this
      exact this.mp e
    | some y =>
      show nI x = nI y ↔ some x = some y
      rw [nI_eq (ha x rfl) (hb y rfl)]
      simp
theorem rC_lt {a b : Option Nat} (ha : ∀ x, a = some x → x < 2 ^ 31) (hb : ∀ x, b = some x → x < 2 ^ 31) : (rC a < rC b) = (ltO a b = true) := by
  have := rC_le ha hb
  apply propext
  rw [← Int32.not_le, this]
  simp
theorem c91 (h : QC σ C s) (p q : Int32) : cQ σ (f91 0 p q σ) (aRiv (pe C) s p q) := by
  obtain ⟨hS, hp, hc, hk, hC⟩ := id h
  unfold f91 f91_30 aRiv
  simp only [acC hS, Option.bind_some, f117_eq hS hk.1 hp, f114_eq hS, bo_ref, bo_0]
  cases e : two (pe C) p q
  · simpa using cQ_w
  · obtain ⟨i, j, hi, hj, rfl, rfl, hij⟩ := two_of hk.1 e
    have h6 := hk.1
    have hi6 : i < 6 := by omega
    have hj6 : j < 6 := by omega
    rw [if_neg (by simp), if_pos rfl, pN_nI hi6, pN_nI hj6]
    simp only [f48_26 hS hc hk hj6, Option.bind_some, bo_0, acC hS, f114_eq hS, bo_ref]
    cases e1 : tb (lv s) j
    · simpa using cQ_w
    · obtain ⟨hS1, -, hc1, -⟩ := QC_w h 0
      rw [if_neg (by simp), if_pos rfl, if_pos (by simp)]
      simp only [acC hS1, Option.bind_some, f125_eq, nI_pair, show i * 6 + j < 36 by omega, f48_26 hS1 hc1 hk hi6, bo_0, f91_69]
      rw [show mI (wI σ 0 8 0) 28 (i * 6 + j) = rC (rg s i j) from hc1.2.1 i hi6 j hj6]
      simp only [rC_m2 (regb hk i j)]
      cases e2 : tb (lv s) i
      · simpa using cQ_w
      · by_cases e3 : rg s i j = none
        · simpa [e3] using cQ_w
        · rw [if_neg (by simp), if_neg e3, if_pos (by simp [e3])]
          have hL : f91_78 1100 0 (nI i) (nI j) (rC (rg s i j)) 0 0 (wI σ 0 8 0) = some (nI (col (rivC s i j) 6), wI σ 0 8 0) := by
            refine lp (fun m k => f91_78 m 0 (nI i) (nI j) (rC (rg s i j)) (nI (col (rivC s i j) k)) (nI k) (wI σ 0 8 0)) 6 (fun k hk6 m r hn => ?_) (fun m => ?_) 6 1100 0 rfl (by omega)
            · simp only [col] at hn
              show f91_78 (m + 1) _ _ _ _ _ _ _ = _
              unfold f91_78 f91_137 f91_146
              rw [if_neg (show ¬ (6 : Int32) ≤ nI k from nI_ge (b := 6) hk6 (by omega))]
              simp only [acC hS1, Option.bind_some, f125_eq, nI_pair, show k * 6 + j < 36 by omega, f48_26 hS1 hc1 hk hk6, bo_0, nI_1, nI_eq (show k < 2 ^ 31 by omega) (show i < 2 ^ 31 by omega), nI_leI (show i < 2 ^ 31 by omega) (show k < 2 ^ 31 by omega)]
              rw [show mI (wI σ 0 8 0) 28 (k * 6 + j) = rC (rg s k j) from hc1.2.1 k hk6 j hj6]
              simp only [rC_lt (regb hk i j) (regb hk k j), rC_inj (regb hk k j) (regb hk i j)]
              rw [show rivC s i j k = (decide (¬ k = i) && (tb (lv s) k && (ltO (rg s i j) (rg s k j) || (decide (rg s k j = rg s i j) && decide (k < i))))) from rfl] at hn
              by_cases g1 : k = i
              · rw [if_pos g1]
                simpa [g1] using hn
              · rw [if_neg g1]
                cases g2 : tb (lv s) k
                · simpa [g1, g2] using hn
                · rw [if_neg (by simp)]
                  cases g3 : ltO (rg s i j) (rg s k j)
                  · rw [if_neg (by simp)]
                    by_cases g4 : rg s k j = rg s i j
                    · rw [if_pos g4]
                      by_cases g5 : i ≤ k
                      · have : ¬ k < i := by omega
                        rw [if_pos g5]
                        rw [g4] at g3
                        simpa [g1, g2, g3, g4, this] using hn
                      · have : k < i := by omega
                        rw [if_neg g5, orN _ (col_lt _ k (show k ≤ 6 by omega)) k hk6]
                        simpa [g1, g2, g3, g4, this] using hn
                    · rw [if_neg g4]
                      simpa [g1, g2, g3, g4] using hn
                  · rw [if_pos rfl, orN _ (col_lt _ k (show k ≤ 6 by omega)) k hk6]
                    simpa [g1, g2, g3] using hn
            · show f91_78 (m + 1) _ _ _ _ _ _ _ = _
              unfold f91_78 f91_152
              rw [if_pos (show (6 : Int32) ≤ nI 6 by decide)]
          rw [hL]
          exact cQ_w
end CLASS
