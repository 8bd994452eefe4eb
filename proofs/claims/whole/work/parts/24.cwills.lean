/-! THE CLASS: wills, chains, who inherits, who has -/
def ltO (a b : Option Nat) : Bool := match a, b with
  | none, some _ => true
  | some x, some y => decide (x < y)
  | _, none => false
/-- the one who asked last, of the first j -/
def heN (r : Nat → Option Nat) (ok : Nat → Bool) : Nat → Option Nat
  | 0 => none
  | j + 1 => if ok j && ltO ((heN r ok j).bind r) (r j) then some j else heN r ok j
theorem heN_congr {r r2 : Nat → Option Nat} {ok ok2 : Nat → Bool} : ∀ {j}, (∀ i, i < j → r i = r2 i ∧ ok i = ok2 i) → heN r ok j = heN r2 ok2 j ∧ ∀ k, heN r ok j = some k → k < j ∧ ok k = true ∧ ∃ h, r k = some h := by
  intro j
  induction j with
  | zero => intro _; exact ⟨rfl, fun k h => by cases h⟩
  | succ j ih =>
    intro h
    obtain ⟨h1, h2⟩ := ih (fun i hi => h i (by omega))
    obtain ⟨h3, h4⟩ := h j (by omega)
    have h5 : (heN r ok j).bind r = (heN r2 ok2 j).bind r2 := by
      rw [← h1]
      cases e : heN r ok j with
      | none => rfl
      | some k => exact (h k (by have := (h2 k e).1; omega)).1
    constructor
    · unfold heN
      rw [h5, h1, h3, h4]
    · intro k hk
      unfold heN at hk
      split at hk
      · rename_i hc
        cases hk
        rw [Bool.and_eq_true] at hc
        refine ⟨by omega, hc.1, ?_⟩
        cases hr : r j with
        | none =>
          rw [hr] at hc
          have := hc.2
          cases e : (heN r ok j).bind r <;> rw [e] at this <;> cases this
        | some x => exact ⟨x, rfl⟩
      · obtain ⟨a, b⟩ := h2 k hk
        exact ⟨by omega, b⟩
/-- the HEIR of q -/
def hei (s : Sta) (q : Nat) : Option Nat := heN (fun p => rg s p q) (fun p => decide (¬ p = q) && tb (lv s) p) 6
theorem hei_ok {s : Sta} {q k : Nat} (h : hei s q = some k) : k < 6 ∧ k ≠ q ∧ tb (lv s) k = true := by
  obtain ⟨h1, h2, -⟩ := (heN_congr (r := fun p => rg s p q) (ok := fun p => decide (¬ p = q) && tb (lv s) p) (j := 6) (fun i _ => ⟨rfl, rfl⟩)).2 k h
  simp only [Bool.and_eq_true, decide_eq_true_eq] at h2
  exact ⟨h1, h2.1, h2.2⟩
/-- as the wills have it: the dead leave to none -/
def hN (s : Sta) (p : Nat) : Option Nat := if tb (lv s) p then hei s p else none
theorem hN_ok {s : Sta} {q k : Nat} (h : hN s q = some k) : k < 6 ∧ k ≠ q ∧ tb (lv s) k = true := by
  unfold hN at h
  split at h
  · exact hei_ok h
  · cases h
theorem hN_6 (s : Sta) : ∀ x y, hN s x = some y → y < 6 := fun x y h => (hN_ok h).1
theorem ob_some {k : Nat} : ob (some k) = nI k := rfl
theorem ob_eq {a b : Option Nat} (ha : ∀ k, a = some k → k < 6) (hb : ∀ k, b = some k → k < 6) : ob a = ob b ↔ a = b := by
  cases a with
  | none =>
    cases b with
    | none => simp
    | some k => exact ⟨fun h => absurd h.symm (ob_ne (hb k rfl)), fun h => by cases h⟩
  | some j =>
    cases b with
    | none => exact ⟨fun h => absurd h (ob_ne (ha j rfl)), fun h => by cases h⟩
    | some k =>
      have h1 := ha j rfl
      have h2 := hb k rfl
      rw [ob_some, ob_some, nI_eq (by omega) (by omega)]
      simp
theorem ob_m2 {a : Option Nat} (ha : ∀ k, a = some k → k < 6) : (ob a = -2) = (a = none) := by
  have := ob_eq (a := a) (b := none) ha (fun k e => by cases e)
  exact propext this
/-- an array's first j places are written -/
def wr (σ : xM) (a : Nat) (f : Nat → Int32) : Nat → xM
  | 0 => σ
  | j + 1 => wI (wr σ a f j) a j (f j)
theorem mI_wr (σ : xM) (a : Nat) (f : Nat → Int32) (b i : Nat) : ∀ j, mI (wr σ a f j) b i = if b = a ∧ i < j then f i else mI σ b i := by
  intro j
  induction j with
  | zero => rw [if_neg (by omega)]; rfl
  | succ j ih =>
    unfold wr
    rw [mI_w, ih]
    by_cases e : b = a
    · by_cases e2 : i = j
      · subst e2
        rw [if_pos ⟨e, rfl⟩, if_pos ⟨e, by omega⟩]
      · rw [if_neg (fun h => e2 h.2)]
        by_cases e3 : i < j
        · rw [if_pos ⟨e, e3⟩, if_pos ⟨e, by omega⟩]
        · rw [if_neg (by omega), if_neg (by omega)]
    · rw [if_neg (fun h => e h.1), if_neg (fun h => e h.1), if_neg (fun h => e h.1)]
theorem Sh_wr (σ : xM) (a : Nat) (f : Nat → Int32) : ∀ j, Sh (wr σ a f j) = Sh σ := by
  intro j
  induction j with
  | zero => rfl
  | succ j ih => exact ih
theorem Upd.wr {P : Nat → Nat → Bool} {σ τ : xM} (h : Upd P σ τ) {a : Nat} {f : Nat → Int32} : ∀ {j}, (∀ i, i < j → P a i = true) → Upd P σ (wr τ a f j) := by
  intro j
  induction j with
  | zero => intro _; exact h
  | succ j ih =>
    intro hp
    exact (ih (fun i hi => hp i (by omega))).wI (hp j (by omega))
theorem isI_wr {σ : xM} {a : Nat} {f : Nat → Int32} {b n : Nat} : ∀ {j}, isI (wr σ a f j) b n = isI σ b n := by
  intro j
  induction j with
  | zero => rfl
  | succ j ih => exact ih
theorem mJ_wr (σ : xM) (a : Nat) (f : Nat → Int32) : ∀ j, mJ (wr σ a f j) = mJ σ := by
  intro j
  induction j with
  | zero => rfl
  | succ j ih => exact ih
/-- where the cell a is left alone, a State there stays -/
theorem cS_upd {P : Nat → Nat → Bool} {σ τ : xM} (h : Upd P σ τ) {a n : Nat} {s : Sta} (h1 : ∀ k, P a k = false) (h2 : ∀ k, P (a + 1) k = false) (h3 : ∀ k, P (a + 2) k = false) (hc : cS σ a n s) : cS τ a n s := by
  obtain ⟨c1, c2, c3, c4, c5, c6, c7⟩ := hc
  refine ⟨fun p hp => ?_, fun p hp q hq => ?_, ?_, ?_, ?_, ?_, ?_⟩
  · rw [h.2.1 _ _ (h2 p)]; exact c1 p hp
  · rw [h.2.1 _ _ (h3 _)]; exact c2 p hp q hq
  all_goals rw [h.2.1 _ _ (h1 _)]; assumption
theorem cC_upd {P : Nat → Nat → Bool} {σ τ : xM} (h : Upd P σ τ) {b : Nat} {C : Cty} (h1 : ∀ i k, i ≤ 10 → P (b + i) k = false) (hc : cC σ b C) : cC τ b C := by
  obtain ⟨⟨a1, a2, a3, a4, a5, a6, a7⟩, c2, c3, c4, c5⟩ := hc
  have e : ∀ i k, i ≤ 10 → mI τ (b + i) k = mI σ (b + i) k := fun i k hi => h.2.1 _ _ (h1 i k hi)
  have e0 : ∀ k, mI τ b k = mI σ b k := fun k => e 0 k (by omega)
  refine ⟨⟨?_, ?_, ?_, ?_, ?_, ?_, ?_⟩, fun p hp => ?_, fun p hp => ?_, fun p hp q hq => ?_, fun k hk => ?_⟩
  iterate 7 rw [e0]; assumption
  · rw [e 1 _ (by omega), e 2 _ (by omega), e 3 _ (by omega)]; exact c2 p hp
  · rw [e 4 _ (by omega), e 5 _ (by omega)]; exact c3 p hp
  · rw [e 6 _ (by omega)]; exact c4 p hp q hq
  · rw [e 8 _ (by omega), e 9 _ (by omega), e 10 _ (by omega)]; exact c5 k hk
section CLASS
variable {σ : xM} {n : Nat} {s : Sta} {C : Cty}
theorem rC_le {a b : Option Nat} (ha : ∀ h, a = some h → h < 2 ^ 31) (hb : ∀ h, b = some h → h < 2 ^ 31) : (rC b ≤ rC a) = (ltO a b = false) := by
  apply propext
  cases a with
  | none =>
    cases b with
    | none => exact ⟨fun _ => rfl, fun _ => by decide⟩
    | some y =>
      have := nI_pos (hb y rfl)
      refine ⟨fun h => absurd (Int32.lt_of_le_of_lt h (by decide)) this, fun h => by cases h⟩
  | some x =>
    cases b with
    | none =>
      refine ⟨fun _ => rfl, fun _ => ?_⟩
      exact Int32.le_trans (by decide) (nI_pos' (ha x rfl))
    | some y =>
      show nI y ≤ nI x ↔ decide (x < y) = false
      rw [nI_leI (hb y rfl) (ha x rfl), decide_eq_false_iff_not]
      omega
/-- Wills.latest -/
theorem f58N {r : Nat} {g : Nat → Nat → Option Nat} {l : Nat} (hr : isI σ r 36) (hg : ∀ p, p < 6 → ∀ q, q < 6 → mI σ r (p * 6 + q) = rC (g p q)) (hb : ∀ p q h, g p q = some h → h < 2 ^ 31) (hl : l < 64) {q : Nat} (hq : q < 6) : f58 r (nI l) (nI q) σ = some (ob (heN (fun p => g p q) (fun p => decide (¬ p = q) && tb l p) 6), σ) := by
  unfold f58
  have hlt : ∀ j k, heN (fun p => g p q) (fun p => decide (¬ p = q) && tb l p) j = some k → k < j := fun j k e => ((heN_congr (j := j) (fun i _ => ⟨rfl, rfl⟩)).2 k e).1
  refine lp (fun m j => f58_10 m r (nI l) (nI q) (ob (heN (fun p => g p q) (fun p => decide (¬ p = q) && tb l p) j)) (rC ((heN (fun p => g p q) (fun p => decide (¬ p = q) && tb l p) j).bind (fun p => g p q))) (nI j) σ) 6 (fun j hj m r' hn => ?_) (fun m => ?_) 6 1100 0 rfl (by omega)
  · simp only [heN] at hn
    show f58_10 (m + 1) _ _ _ _ _ _ _ = _
    unfold f58_10 f58_58
    rw [if_neg (show ¬ (6 : Int32) ≤ nI j from nI_ge (b := 6) hj (by omega))]
    simp only [nI_eq (show j < 2 ^ 31 by omega) (show q < 2 ^ 31 by omega), f124N hl hj, f125_eq, nI_pair, aI_nI hr (show j * 6 + q < 36 by omega) (by omega), Option.bind_some, bo_0, hg j hj q hq, nI_1]
    have hle := rC_le (a := (heN (fun p => g p q) (fun p => decide (¬ p = q) && tb l p) j).bind (fun p => g p q)) (b := g j q) (fun h e => by
      cases e2 : heN (fun p => g p q) (fun p => decide (¬ p = q) && tb l p) j with
      | none => rw [e2] at e; cases e
      | some k => rw [e2] at e; exact hb k q h e) (hb j q)
    by_cases e1 : j = q
    · simpa [e1] using hn
    · cases e2 : tb l j
      · simpa [e1, e2] using hn
      · simp only [e1, hle]
        cases e3 : ltO ((heN (fun p => g p q) (fun p => decide (¬ p = q) && tb l p) j).bind (fun p => g p q)) (g j q)
        · rw [e3] at hn
          simpa [e1, e2] using hn
        · rw [e3] at hn
          simpa [e1, e2, ob] using hn
  · show f58_10 (m + 1) _ _ _ _ _ _ _ = _
    unfold f58_10
    rw [if_pos (show (6 : Int32) ≤ nI 6 by decide)]
    rfl
theorem regb (hk : Ok n s) : ∀ p q h, rg s p q = some h → h < 2 ^ 31 := fun p q h e => by
  have := hk.2.2.2.2.2.1 p q h e
  have := hk.2.2.2.2.1
  omega
def wl (σ : xM) (s : Sta) : xM := wr σ 93 (fun p => ob (hN s p)) 6
theorem f57N {r : Nat} (hS : Sh σ) (hr : isI σ r 36) (hr93 : r ≠ 93) (hg : ∀ p, p < 6 → ∀ q, q < 6 → mI σ r (p * 6 + q) = rC (rg s p q)) (hk : Ok n s) : f57 92 r (nI (lv s)) σ = some (wl σ s) := by
  unfold f57 wl
  refine lp (fun m j => f57_2 m 92 r (nI (lv s)) (nI j) (wr σ 93 (fun p => ob (hN s p)) j)) 6 (fun j hj m r' hn => ?_) (fun m => ?_) 6 1100 0 rfl (by omega)
  · simp only [wr] at hn
    have hS' : Sh (wr σ 93 (fun p => ob (hN s p)) j) := by rw [Sh_wr]; exact hS
    have h58 := f58N (σ := wr σ 93 (fun p => ob (hN s p)) j) (r := r) (g := rg s) (l := lv s) (by rw [isI_wr]; exact hr) (fun p hp q hq => by rw [mI_wr, if_neg (fun h => hr93 h.1)]; exact hg p hp q hq) (regb hk) hk.lv64 hj
    show f57_2 (m + 1) _ _ _ _ _ = _
    unfold f57_2 f57_32
    rw [if_neg (show ¬ (6 : Int32) ≤ nI j from nI_ge (b := 6) hj (by omega))]
    simp only [acC hS', Option.bind_some, f124N hk.lv64 hj, bo_0, h58, hj, nI_1]
    have hh : hN s j = if tb (lv s) j then hei s j else none := rfl
    rw [hh] at hn
    cases e : tb (lv s) j
    · rw [e] at hn
      simpa [ob] using hn
    · rw [e] at hn
      simpa [hei] using hn
  · show f57_2 (m + 1) _ _ _ _ _ = _
    unfold f57_2 f57_39
    rw [if_pos (show (6 : Int32) ≤ nI 6 by decide)]
/-- the wills are read -/
def cH (σ : xM) (s : Sta) : Prop := ∀ p, p < 6 → mI σ 93 p = ob (hN s p)
theorem wl_cH (σ : xM) (s : Sta) : cH (wl σ s) s := fun p hp => by
  unfold wl
  rw [mI_wr, if_pos ⟨rfl, hp⟩]
/-- willsNow -/
theorem f129N (hS : Sh σ) (hc : cS σ 26 n s) (hk : Ok n s) : f129 0 σ = some (92, wl σ s) := by
  have hS' : Sh (wl σ s) := by unfold wl; rw [Sh_wr]; exact hS
  have h57 := f57N (r := 28) hS (sh_a hS (by decide) rfl rfl) (by decide) hc.2.1 hk
  unfold f129
  simp only [acC hS, acC hS', Option.bind_some, hc.2.2.1, h57]
def P93 : Nat → Nat → Bool := fun a _ => Nat.beq a 93
theorem wl_upd {P : Nat → Nat → Bool} {τ : xM} (h : Upd P σ τ) (hp : ∀ k, P 93 k = true) : Upd P σ (wl τ s) := h.wr (fun i _ => hp i)
/-- endOf -/
theorem f59_8N (hS : Sh σ) (hH : cH σ s) {set : Nat} (hset : set < 64) : ∀ (k m had a : Nat), k ≤ 6 → k + 1 ≤ m → had < 64 → a < 6 → f59_8 m 92 (nI set) (nI had) (nI a) (nI (6 - k)) σ = some (ob (endF (hN s) set k had a), σ) := by
  intro k
  induction k with
  | zero =>
    intro m had a _ hm _ _
    obtain ⟨m, rfl⟩ : ∃ k, m = k + 1 := ⟨m - 1, by omega⟩
    unfold f59_8
    rw [if_pos (show (6 : Int32) ≤ nI (6 - 0) by decide)]
    rfl
  | succ k ih =>
    intro m had a hk hm hh ha
    obtain ⟨m, rfl⟩ : ∃ k, m = k + 1 := ⟨m - 1, by omega⟩
    have ih' := ih m (had ||| 2 ^ a)
    have hnext : nI (6 - (k + 1)) + 1 = nI (6 - k) := by rw [nI_1]; congr 1; omega
    unfold f59_8 f59_47 endF
    rw [if_neg (show ¬ (6 : Int32) ≤ nI (6 - (k + 1)) from nI_ge (b := 6) (by omega) (by omega))]
    simp only [acC hS, Option.bind_some, ha, hH a ha, ob_m2 (hN_6 s a)]
    cases e : hN s a with
    | none => simp [ob]
    | some b =>
      have hb := hN_6 s a b e
      simp only [ob_some, orN had hh a ha, f124N (or_lt hh ha) hb, f124N hset hb, Option.bind_some, bo_0, hnext, reduceCtorEq, if_false]
      cases e1 : tb (had ||| 2 ^ a) b
      · cases e2 : tb set b
        · simp [ob]
        · simpa using ih' b (by omega) (by omega) (or_lt hh ha) hb
      · simp [ob]
def enN (s : Sta) (set p : Nat) : Option Nat := endF (hN s) set 6 0 p
theorem f59N (hS : Sh σ) (hH : cH σ s) {set p : Nat} (hset : set < 64) (hp : p < 6) : f59 92 (nI p) (nI set) σ = some (ob (enN s set p), σ) := by
  unfold f59
  exact f59_8N hS hH hset 6 1100 0 p (by omega) (by omega) (by omega) hp
/-- between -/
theorem f60_8N (hS : Sh σ) (hH : cH σ s) {to : Nat} (ht : to < 6) : ∀ (k m d : Nat) (a : Option Nat), k ≤ 6 → k + 1 ≤ m → d < 64 → (∀ x, a = some x → x < 6) → f60_8 m 92 (nI to) (nI d) (ob a) (nI (6 - k)) σ = some (match btF (hN s) to k d a with | none => -1 | some B => nI B, σ) := by
  intro k
  induction k with
  | zero =>
    intro m d a _ hm _ _
    obtain ⟨m, rfl⟩ : ∃ k, m = k + 1 := ⟨m - 1, by omega⟩
    unfold f60_8
    rw [if_pos (show (6 : Int32) ≤ nI (6 - 0) by decide)]
    rfl
  | succ k ih =>
    intro m d a hk hm hd ha
    obtain ⟨m, rfl⟩ : ∃ k, m = k + 1 := ⟨m - 1, by omega⟩
    have hnext : nI (6 - (k + 1)) + 1 = nI (6 - k) := by rw [nI_1]; congr 1; omega
    unfold f60_8 f60_52
    rw [if_neg (show ¬ (6 : Int32) ≤ nI (6 - (k + 1)) from nI_ge (b := 6) (by omega) (by omega))]
    cases a with
    | none => rfl
    | some a =>
      have ha6 := ha a rfl
      rw [if_neg (ob_ne ha6)]
      simp only [acC hS, Option.bind_some, ob_some, ha6, hH a ha6, orN d hd a ha6, hnext, nI_eq (show a < 2 ^ 31 by omega) (show to < 2 ^ 31 by omega), btF]
      by_cases e : a = to
      · simp [e]
      · rw [if_neg e, if_neg e]
        exact ih m _ _ (by omega) (by omega) (or_lt hd ha6) (hN_6 s a)
def bwN (s : Sta) (from_ to : Nat) : Option Nat := btF (hN s) to 6 0 (some from_)
def obB (b : Option Nat) : Int32 := match b with
  | none => -1
  | some B => nI B
theorem f60N (hS : Sh σ) (hH : cH σ s) {p to : Nat} (hp : p < 6) (ht : to < 6) : f60 92 (nI p) (nI to) σ = some (obB (bwN s p to), σ) := by
  unfold f60
  exact f60_8N hS hH ht 6 1100 0 (some p) (by omega) (by omega) (by omega) (fun x e => by cases e; exact hp)
/-- untilCat -/
theorem f61_7N (hS : Sh σ) (hH : cH σ s) : ∀ (k m d : Nat) (a : Option Nat), k ≤ 6 → k + 1 ≤ m → d < 64 → (∀ x, a = some x → x < 6) → f61_7 m 92 (nI d) (ob a) (nI (6 - k)) σ = some (nI (utF (hN s) k d a), σ) := by
  intro k
  induction k with
  | zero =>
    intro m d a _ hm _ _
    obtain ⟨m, rfl⟩ : ∃ k, m = k + 1 := ⟨m - 1, by omega⟩
    unfold f61_7
    rw [if_pos (show (6 : Int32) ≤ nI (6 - 0) by decide)]
    rfl
  | succ k ih =>
    intro m d a hk hm hd ha
    obtain ⟨m, rfl⟩ : ∃ k, m = k + 1 := ⟨m - 1, by omega⟩
    have hnext : nI (6 - (k + 1)) + 1 = nI (6 - k) := by rw [nI_1]; congr 1; omega
    unfold f61_7 f61_39
    rw [if_neg (show ¬ (6 : Int32) ≤ nI (6 - (k + 1)) from nI_ge (b := 6) (by omega) (by omega))]
    cases a with
    | none => rfl
    | some a =>
      have ha6 := ha a rfl
      rw [if_neg (ob_ne ha6)]
      simp only [acC hS, Option.bind_some, ob_some, ha6, hH a ha6, orN d hd a ha6, hnext, utF]
      exact ih m _ _ (by omega) (by omega) (or_lt hd ha6) (hN_6 s a)
def ucN (s : Sta) (p : Nat) : Nat := utF (hN s) 6 0 (some p)
theorem f61N (hS : Sh σ) (hH : cH σ s) {p : Nat} (hp : p < 6) : f61 92 (nI p) σ = some (nI (ucN s p), σ) := by
  unfold f61
  exact f61_7N hS hH 6 1100 0 (some p) (by omega) (by omega) (by omega) (fun x e => by cases e; exact hp)
/-- comesBack -/
theorem f62_9N (hS : Sh σ) (hH : cH σ s) {p : Nat} (hp : p < 6) : ∀ (k m : Nat) (a : Option Nat), k ≤ 6 → k + 1 ≤ m → (∀ x, a = some x → x < 6) → f62_9 m 92 (nI p) (ob a) (nI (6 - k)) σ = some (bo (rdF (hN s) p k a), σ) := by
  intro k
  induction k with
  | zero =>
    intro m a _ hm _
    obtain ⟨m, rfl⟩ : ∃ k, m = k + 1 := ⟨m - 1, by omega⟩
    unfold f62_9
    rw [if_pos (show (6 : Int32) ≤ nI (6 - 0) by decide)]
    rfl
  | succ k ih =>
    intro m a hk hm ha
    obtain ⟨m, rfl⟩ : ∃ k, m = k + 1 := ⟨m - 1, by omega⟩
    have hnext : nI (6 - (k + 1)) + 1 = nI (6 - k) := by rw [nI_1]; congr 1; omega
    unfold f62_9 f62_41
    rw [if_neg (show ¬ (6 : Int32) ≤ nI (6 - (k + 1)) from nI_ge (b := 6) (by omega) (by omega))]
    cases a with
    | none => rfl
    | some a =>
      have ha6 := ha a rfl
      rw [if_neg (ob_ne ha6)]
      simp only [acC hS, Option.bind_some, ob_some, ha6, hH a ha6, hnext, nI_eq (show a < 2 ^ 31 by omega) (show p < 2 ^ 31 by omega), rdF, rZ1]
      by_cases e : a = p
      · simp [e]
      · rw [if_neg e, if_neg e]
        exact ih m _ (by omega) (by omega) (hN_6 s a)
theorem f62N (hS : Sh σ) (hH : cH σ s) {p : Nat} (hp : p < 6) : f62 92 (nI p) σ = some (bo (rdF (hN s) p 6 (hN s p)), σ) := by
  unfold f62
  simp only [acC hS, Option.bind_some, hp, hH p hp]
  exact f62_9N hS hH hp 6 1100 _ (by omega) (by omega) (hN_6 s p)
/-- whose heir p is -/
def hto (s : Sta) (p : Nat) : Nat := col (fun q => tb (lv s) q && decide (hN s q = some p)) 6
theorem f130_9N (hS : Sh σ) (hH : cH σ s) (hc : cS σ 26 n s) (hk : Ok n s) {p : Nat} (hp : p < 6) : f130_9 1100 0 (nI p) 0 0 σ = some (nI (hto s p), σ) := by
  unfold hto
  refine lp (fun m j => f130_9 m 0 (nI p) (nI (col (fun q => tb (lv s) q && decide (hN s q = some p)) j)) (nI j) σ) 6 (fun j hj m r hn => ?_) (fun m => ?_) 6 1100 0 rfl (by omega)
  · simp only [col] at hn
    show f130_9 (m + 1) _ _ _ _ _ = _
    unfold f130_9 f130_45
    rw [if_neg (show ¬ (6 : Int32) ≤ nI j from nI_ge (b := 6) hj (by omega))]
    have he : (ob (hN s j) = nI p) = (hN s j = some p) := propext (ob_eq (b := some p) (hN_6 s j) (fun k e => by cases e; exact hp))
    simp only [acC hS, Option.bind_some, f48_26 hS hc hk hj, bo_0, nI_1, hj, hH j hj, he]
    cases e1 : tb (lv s) j
    · simpa [e1] using hn
    · by_cases e2 : hN s j = some p
      · simpa [e1, e2, orN _ (col_lt _ j (show j ≤ 6 by omega)) j hj] using hn
      · simpa [e1, e2] using hn
  · show f130_9 (m + 1) _ _ _ _ _ = _
    unfold f130_9 f130_51
    rw [if_pos (show (6 : Int32) ≤ nI 6 by decide)]
theorem f130N (hS : Sh σ) (hc : cS σ 26 n s) (hk : Ok n s) {p : Nat} (hp : p < 6) : f130 0 (nI p) σ = some (nI (hto s p), wl σ s) := by
  have hS' : Sh (wl σ s) := by unfold wl; rw [Sh_wr]; exact hS
  have hc' : cS (wl σ s) 26 n s := cS_upd (P := P93) (wl_upd Upd.refl (fun _ => rfl)) (fun _ => rfl) (fun _ => rfl) (fun _ => rfl) hc
  unfold f130
  simp only [acC hS, Option.bind_some, f129N hS hc hk, f130_9N hS' (wl_cH σ s) hc' hk hp]
end CLASS
