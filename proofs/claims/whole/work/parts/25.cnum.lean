/-! THE CLASS: who has most, what one has behind a night, how likely, the mean, lowest terms -/
def mor (v : Nat → Nat) (o : Option Nat) (j : Nat) : Bool := match o with
  | none => true
  | some k => decide (v k < v j)
/-- the first who has most, of the first j -/
def riF (v : Nat → Nat) (c : Nat → Bool) : Nat → Option Nat
  | 0 => none
  | j + 1 => if c j && mor v (riF v c j) j then some j else riF v c j
theorem riF_congr {v v2 : Nat → Nat} {c c2 : Nat → Bool} : ∀ {j}, (∀ i, i < j → c i = c2 i ∧ (c i = true → v i = v2 i)) → riF v c j = riF v2 c2 j ∧ ∀ k, riF v c j = some k → k < j ∧ c k = true := by
  intro j
  induction j with
  | zero => intro _; exact ⟨rfl, fun k e => by cases e⟩
  | succ j ih =>
    intro h
    obtain ⟨h1, h2⟩ := ih (fun i hi => h i (by omega))
    obtain ⟨h3, h4⟩ := h j (by omega)
    constructor
    · unfold riF
      rw [← h1, ← h3]
      cases hc : c j
      · rfl
      · cases e : riF v c j with
        | none => rfl
        | some k =>
          obtain ⟨k1, k2⟩ := h2 k e
          simp only [mor, ← h4 hc, ← (h k (by omega)).2 k2]
          rfl
    · intro k hk
      unfold riF at hk
      split at hk
      · rename_i hc
        cases hk
        rw [Bool.and_eq_true] at hc
        exact ⟨by omega, hc.1⟩
      · obtain ⟨a, b⟩ := h2 k hk
        exact ⟨by omega, b⟩
/-- beyond n nothing counts -/
theorem riF_more {v : Nat → Nat} {c : Nat → Bool} {n : Nat} : ∀ {j}, n ≤ j → (∀ i, n ≤ i → i < j → c i = false) → riF v c j = riF v c n := by
  intro j
  induction j with
  | zero => intro h _; rw [show n = 0 by omega]
  | succ j ih =>
    intro h hc
    by_cases e : n = j + 1
    · rw [e]
    · simp only [riF, hc j (by omega) (by omega), ih (by omega) (fun i h1 h2 => hc i h1 (by omega))]
      simp
theorem col_more {c : Nat → Bool} {n : Nat} : ∀ {j}, n ≤ j → (∀ i, n ≤ i → i < j → c i = false) → col c j = col c n := by
  intro j
  induction j with
  | zero => intro h _; rw [show n = 0 by omega]
  | succ j ih =>
    intro h hc
    by_cases e : n = j + 1
    · rw [e]
    · simp only [col, hc j (by omega) (by omega), ih (by omega) (fun i h1 h2 => hc i h1 (by omega))]
      simp
theorem sub_n {n : Nat} {s : Sta} (h : Ok n s) {t : Nat} (ht : sub t (lv s)) : ∀ p, tb t p = true → p < n := fun p hp => h.lvn (ht p hp)
section CLASS
variable {σ : xM} {n : Nat} {s : Sta} {C : Cty}
theorem f128N (hS : Sh σ) (hc : cS σ 26 n s) (hk : Ok n s) {t : Nat} (ht : t < 64) (hsub : ∀ p, tb t p = true → p < n) : f128 0 (nI t) σ = some (ob (riF (hs s) (tb t) 6), σ) := by
  unfold f128
  refine lp (fun m j => f128_8 m 0 (nI t) (ob (riF (hs s) (tb t) j)) (match riF (hs s) (tb t) j with | none => -1 | some k => nI (hs s k)) (nI j) σ) 6 (fun j hj m r hn => ?_) (fun m => ?_) 6 1100 0 rfl (by omega)
  · simp only [riF] at hn
    show f128_8 (m + 1) _ _ _ _ _ _ = _
    unfold f128_8 f128_52
    rw [if_neg (show ¬ (6 : Int32) ≤ nI j from nI_ge (b := 6) hj (by omega))]
    simp only [acC hS, Option.bind_some, f124N ht hj, bo_0, hj, nI_1]
    cases e1 : tb t j
    · simpa [e1] using hn
    · have hjn := hsub j e1
      have hv := hc.1 j hjn
      have h594 := hk.has hjn
      rw [show mI σ 27 j = nI (hs s j) from hv]
      cases e : riF (hs s) (tb t) j with
      | none =>
        rw [if_neg (show ¬ nI (hs s j) ≤ -1 from fun h => nI_pos (show hs s j < 2 ^ 31 by omega) (Int32.lt_of_le_of_lt h (by decide)))]
        simp only [e, e1, mor] at hn
        simpa [ob] using hn
      | some k =>
        obtain ⟨k1, k2⟩ := (riF_congr (v2 := hs s) (c2 := tb t) (fun i _ => ⟨rfl, fun _ => rfl⟩)).2 k e
        have h594k := hk.has (hsub k k2)
        simp only [nI_leI (show hs s j < 2 ^ 31 by omega) (show hs s k < 2 ^ 31 by omega)]
        simp only [e, e1, mor] at hn
        by_cases e3 : hs s j ≤ hs s k
        · have e4 : ¬ hs s k < hs s j := by omega
          simp only [e4, decide_false] at hn
          rw [if_neg (by simp), if_pos e3]
          simpa using hn
        · have e4 : hs s k < hs s j := by omega
          simp only [e4, decide_true] at hn
          rw [if_neg (by simp), if_neg e3]
          simpa [ob] using hn
  · show f128_8 (m + 1) _ _ _ _ _ _ = _
    unfold f128_8 f128_58
    rw [if_pos (show (6 : Int32) ≤ nI 6 by decide)]
/-- what p has behind a night in which a set dies -/
def gets (s : Sta) (set p : Nat) : Nat := sm (fun q => if tb set q && decide (enN s set q = some p) then hs s q else 0) 6
def hasB (s : Sta) (set p : Nat) : Nat := if tb set p then 0 else hs s p + gets s set p
theorem enN_6 {s : Sta} {set p k : Nat} (h : enN s set p = some k) : k < 6 := by
  have : ∀ j had a, endF (hN s) set j had a = some k → k < 6 := by
    intro j
    induction j with
    | zero => intro had a e; cases e
    | succ j ih =>
      intro had a e
      unfold endF at e
      split at e
      · cases e
      · rename_i b hb
        split at e
        · cases e
        · split at e
          · exact ih _ _ e
          · cases e
            exact hN_6 s a _ hb
  exact this _ _ _ h
theorem f131N (hS : Sh σ) (hH : cH σ s) (hc : cS σ 26 n s) (hk : Ok n s) {set p : Nat} (hset : set < 64) (hsub : ∀ q, tb set q = true → q < n) (hp : p < n) : f131 0 (nI p) (nI set) σ = some (nI (hasB s set p), σ) := by
  have h6 := hk.1
  have hp6 : p < 6 := by omega
  unfold f131 hasB
  simp only [acC hS, Option.bind_some, f124N hset hp6, bo_0, hp6, show mI σ 27 p = nI (hs s p) from hc.1 p hp]
  cases e0 : tb set p
  · simp only [if_true]
    rw [if_neg (by simp)]
    unfold gets
    refine lp (fun m j => f131_23 m 0 (nI p) (nI set) (nI (hs s p + sm (fun q => if tb set q && decide (enN s set q = some p) then hs s q else 0) j)) (nI j) σ) 6 (fun j hj m r hn => ?_) (fun m => ?_) 6 1100 0 rfl (by omega)
    · simp only [sm] at hn
      show f131_23 (m + 1) _ _ _ _ _ _ = _
      unfold f131_23 f131_66
      rw [if_neg (show ¬ (6 : Int32) ≤ nI j from nI_ge (b := 6) hj (by omega))]
      have he : (ob (enN s set j) = nI p) = (enN s set j = some p) := propext (ob_eq (b := some p) (fun k e => enN_6 e) (fun k e => by cases e; exact hp6))
      simp only [acC hS, Option.bind_some, f124N hset hj, f59N hS hH hset hj, bo_0, hj, nI_1, he]
      cases e1 : tb set j
      · simpa [e1] using hn
      · rw [show mI σ 27 j = nI (hs s j) from hc.1 j (hsub j e1)]
        by_cases e2 : enN s set j = some p
        · rw [if_neg (by simp), if_pos e2, nI_add]
          simpa [e1, e2, Nat.add_assoc] using hn
        · rw [if_neg (by simp), if_neg e2]
          simpa [e1, e2] using hn
    · show f131_23 (m + 1) _ _ _ _ _ _ = _
      unfold f131_23 f131_72
      rw [if_pos (show (6 : Int32) ≤ nI 6 by decide)]
  · simp [nI_0]
/-- how likely all of one set die and all of another don't, of 100 ^ 6 -/
def lik (C : Cty) (d t : Nat) : Nat := pr (fun p => if tb d p then dz C p else if tb t p then 100 - dz C p else 100) 6
theorem f132N (hS : Sh σ) (hC : cC σ 15 C) (hO : OkC C) {d t : Nat} (hd : d < 64) (ht : t < 64) (h1 : ∀ p, tb d p = true → p < pe C) (h2 : ∀ p, tb t p = true → p < pe C) : f132 0 (nI d) (nI t) σ = some (lN (lik C d t), σ) := by
  unfold f132 lik
  refine lp (fun m j => f132_5 m 0 (nI d) (nI t) (lN (pr (fun p => if tb d p then dz C p else if tb t p then 100 - dz C p else 100) j)) (nI j) σ) 6 (fun j hj m r hn => ?_) (fun m => ?_) 6 1100 0 rfl (by omega)
  · simp only [pr] at hn
    show f132_5 (m + 1) _ _ _ _ _ _ = _
    unfold f132_5 f132_73
    rw [if_neg (show ¬ (6 : Int32) ≤ nI j from nI_ge (b := 6) hj (by omega))]
    simp only [acC hS, Option.bind_some, f124N hd hj, f124N ht hj, bo_0, hj, nI_1]
    cases e1 : tb d j
    · cases e2 : tb t j
      · simp only [if_true]
        rw [show (100 : Int64) = lN 100 from rfl, lN_mul]
        simpa [e1, e2] using hn
      · have hj2 := h2 j e2
        have hb := (hO.2.1 j hj2).2.2
        simp only [if_true]
        rw [if_neg (by simp), show mI σ 18 j = nI (dz C j) from (hC.2.1 j hj2).2.2, show (100 : Int32) = nI 100 from rfl, pk_sub hb, nI_l (by omega), lN_mul]
        simpa [e1, e2] using hn
    · have hj2 := h1 j e1
      have hb := (hO.2.1 j hj2).2.2
      rw [if_neg (by simp), show mI σ 18 j = nI (dz C j) from (hC.2.1 j hj2).2.2, nI_l (by omega), lN_mul]
      simpa [e1] using hn
  · show f132_5 (m + 1) _ _ _ _ _ _ = _
    unfold f132_5 f132_79
    rw [if_pos (show (6 : Int32) ≤ nI 6 by decide)]
theorem pow64 {p : Nat} (hp : p < 6) : 2 ^ p < 64 := Nat.pow_lt_pow_right (a := 2) (m := p) (n := 6) (by decide) hp
theorem f48N {a : Nat} (ha : a = 26 ∨ a = 29) (hS : Sh σ) (hc : cS σ a n s) (hk : Ok n s) {p : Nat} (hp : p < 6) : f48 a (nI p) σ = some (bo (tb (lv s) p), σ) := by
  rcases ha with rfl | rfl
  · exact f48_26 hS hc hk hp
  · exact f48_29 hS hc hk hp
/-- the part of one's mean that comes from q -/
def meQ (C : Cty) (s : Sta) (p q : Nat) : Nat := if tb (lv s) p && tb (lv s) q then (match bwN s q p with | none => 0 | some B => hs s q * lik C B (2 ^ p)) else 0
def meN (C : Cty) (s : Sta) (p : Nat) : Nat := sm (meQ C s p) 6
theorem btF_live {s : Sta} {to : Nat} : ∀ k d a B, btF (hN s) to k d a = some B → d < 64 → (∀ x, tb d x = true → tb (lv s) x = true) → (∀ x, a = some x → x < 6 ∧ tb (lv s) x = true) → B < 64 ∧ ∀ x, tb B x = true → tb (lv s) x = true := by
  intro k
  induction k with
  | zero => intro d a B e; cases e
  | succ k ih =>
    intro d a B e hd h1 h2
    cases a with
    | none => cases e
    | some a =>
      unfold btF at e
      obtain ⟨a6, al⟩ := h2 a rfl
      split at e
      · cases e
        exact ⟨hd, h1⟩
      · refine ih _ _ B e (or_lt hd a6) (fun x hx => ?_) (fun x hx => ?_)
        · rw [tb_or, Bool.or_eq_true, decide_eq_true_eq] at hx
          rcases hx with hx | rfl
          · exact h1 x hx
          · exact al
        · exact ⟨(hN_ok hx).1, (hN_ok hx).2.2⟩
theorem bw_live {s : Sta} {p q B : Nat} (h : bwN s p q = some B) (hp : p < 6) (hl : tb (lv s) p = true) : B < 64 ∧ ∀ x, tb B x = true → tb (lv s) x = true :=
  btF_live _ _ _ _ h (by omega) (fun x hx => by rw [tb_0] at hx; cases hx) (fun x e => by cases e; exact ⟨hp, hl⟩)
theorem obB_m1 {b : Option Nat} (h : ∀ B, b = some B → B < 64) : (obB b = -1) = (b = none) := by
  apply propext
  cases b with
  | none => exact ⟨fun _ => rfl, fun _ => rfl⟩
  | some B =>
    have := h B rfl
    refine ⟨fun e => ?_, fun e => by cases e⟩
    have e : nI B = -1 := e
    have h1 := nI_pos (show B < 2 ^ 31 by omega)
    rw [e] at h1
    exact absurd (by decide) h1
theorem f133_20N {a : Nat} (ha : a = 26 ∨ a = 29) (hS : Sh σ) (hH : cH σ s) (hC : cC σ 15 C) (hO : OkC C) (hc : cS σ a (pe C) s) (hk : Ok (pe C) s) {p : Nat} (hp : p < pe C) : f133_20 1100 0 (nI p) a 0 0 σ = some (lN (meN C s p), σ) := by
  have h6 := hO.1
  have hp6 : p < 6 := by omega
  unfold meN
  refine lp (fun m j => f133_20 m 0 (nI p) a (lN (sm (meQ C s p) j)) (nI j) σ) 6 (fun j hj m r hn => ?_) (fun m => ?_) 6 1100 0 rfl (by omega)
  · simp only [sm] at hn
    show f133_20 (m + 1) _ _ _ _ _ _ = _
    unfold f133_20 f133_57 f133_58 f133_87
    rw [if_neg (show ¬ (6 : Int32) ≤ nI j from nI_ge (b := 6) hj (by omega))]
    have hcO : cO σ a 4 = some () := by rcases ha with rfl | rfl <;> simp only [acC hS]
    have hgR : gR σ a 4 5 = some (a + 1) := by rcases ha with rfl | rfl <;> simp only [acC hS]
    have haI : aI σ (a + 1) (nI j) = some (mI σ (a + 1) j) := by rcases ha with rfl | rfl <;> simp only [acC hS, hj]
    simp only [acC hS, hcO, Option.bind_some, f48N ha hS hc hk hp6, f48N ha hS hc hk hj, f60N hS hH hj hp6, bo_0, hj, nI_1]
    rw [show meQ C s p j = if tb (lv s) p && tb (lv s) j then (match bwN s j p with | none => 0 | some B => hs s j * lik C B (2 ^ p)) else 0 from rfl] at hn
    cases e1 : tb (lv s) p
    · simpa [e1] using hn
    · cases e2 : tb (lv s) j
      · simpa [e1, e2] using hn
      · simp only [e1, e2, Bool.and_true, if_true] at hn
        rw [if_neg (by simp), if_neg (by simp)]
        have hjn := hk.lvn e2
        simp only [obB_m1 (fun B e => (bw_live e hj e2).1)]
        cases e3 : bwN s j p with
        | none => simpa [e3] using hn
        | some B =>
          obtain ⟨b1, b2⟩ := bw_live e3 hj e2
          have h594 := hk.has hjn
          simp only [e3] at hn
          rw [if_neg (by simp), hgR, Option.bind_some, haI, Option.bind_some, shlN p hp6, show obB (some B) = nI B from rfl, f132N hS hC hO b1 (pow64 hp6) (fun x hx => hk.lvn (b2 x hx)) (fun x hx => by rw [tb_pow, decide_eq_true_eq] at hx; omega), Option.bind_some]
          simp only
          rw [hc.1 j hjn, nI_l (by omega), lN_mul, lN_add]
          exact hn
  · show f133_20 (m + 1) _ _ _ _ _ _ = _
    unfold f133_20 f133_93
    rw [if_pos (show (6 : Int32) ≤ nI 6 by decide)]
theorem wl_sh (hS : Sh σ) : Sh (wl σ s) := by unfold wl; rw [Sh_wr]; exact hS
theorem wl_cS {a : Nat} (ha : a = 26 ∨ a = 29) {s' : Sta} (hc : cS σ a n s') : cS (wl σ s) a n s' := by
  rcases ha with rfl | rfl
  · exact cS_upd (P := P93) (wl_upd Upd.refl (fun _ => rfl)) (fun _ => rfl) (fun _ => rfl) (fun _ => rfl) hc
  · exact cS_upd (P := P93) (wl_upd Upd.refl (fun _ => rfl)) (fun _ => rfl) (fun _ => rfl) (fun _ => rfl) hc
theorem wl_cC (hC : cC σ 15 C) : cC (wl σ s) 15 C := cC_upd (P := P93) (wl_upd Upd.refl (fun _ => rfl)) (fun i k hi => by
  show Nat.beq (15 + i) 93 = false
  rw [Bool.eq_false_iff]
  intro h
  rw [Nat.beq_eq] at h
  omega) hC
theorem f133N {a : Nat} (ha : a = 26 ∨ a = 29) (hS : Sh σ) (hC : cC σ 15 C) (hO : OkC C) (hc : cS σ a (pe C) s) (hk : Ok (pe C) s) {p : Nat} (hp : p < pe C) : f133 0 (nI p) a σ = some (lN (meN C s p), wl σ s) := by
  have hg6 : gR σ a 4 6 = some (a + 2) := by rcases ha with rfl | rfl <;> simp only [acC hS]
  have hg4 : gI σ a 4 4 = some (mI σ a 4) := by rcases ha with rfl | rfl <;> simp only [acC hS]
  have hI : isI σ (a + 2) 36 := by rcases ha with rfl | rfl <;> exact sh_a hS (by decide) rfl rfl
  unfold f133
  simp only [acC hS, hg6, hg4, Option.bind_some, hc.2.2.1, f57N hS hI (show a + 2 ≠ 93 by omega) hc.2.1 hk]
  exact f133_20N ha (wl_sh hS) (wl_cH σ s) (wl_cC hC) hO (wl_cS ha hc) hk hp
/-- likelyToHave -/
def oddQ (C : Cty) (s : Sta) (p much d : Nat) : Nat := if lset s (nI d) && (!tb d p && decide (much ≤ hasB s d p)) then lik C d (dif (lv s) d) else 0
theorem hasB_le {s : Sta} {n : Nat} (hk : Ok n s) {set p : Nat} (hp : p < n) (hsub : sub set (lv s)) : hasB s set p ≤ 594 := by
  unfold hasB
  split
  · omega
  · rename_i hps
    have h6 := hk.1
    have e1 : gets s set p ≤ sm (fun q => if q = p then 0 else if decide (q < n) then hs s q else 0) 6 := by
      unfold gets
      refine sm_le (fun q hq => ?_)
      split
      · rename_i hc
        rw [Bool.and_eq_true] at hc
        have : q ≠ p := fun e => hps (e ▸ hc.1)
        rw [if_neg this, if_pos (decide_eq_true (hk.lvn (hsub q hc.1)))]
        exact Nat.le_refl _
      · exact Nat.zero_le _
    have e2 : sm (fun q => if decide (q < n) then hs s q else 0) 6 = sm (hs s) n := by
      rw [sm_more (a := n) h6 (fun i h1 _ => by rw [if_neg (by simp; omega)])]
      exact sm_congr (fun i hi => by rw [if_pos (decide_eq_true hi)])
    have e3 : sm (fun q => if q = p then 0 else if decide (q < n) then hs s q else 0) 6 + hs s p = sm (fun q => if decide (q < n) then hs s q else 0) 6 := by
      have : hs s p = sm (fun q => if q = p then hs s p else 0) 6 := by
        rw [sm_one (j := p) (by omega) (fun i _ hi => if_neg hi), if_pos rfl]
      rw [this, ← sm_add]
      refine sm_congr (fun q _ => ?_)
      by_cases e : q = p
      · subst e
        rw [if_pos rfl, if_pos rfl, if_pos (decide_eq_true hp)]
        omega
      · rw [if_neg e, if_neg e]
        omega
    have := hk.2.2.2.1
    omega
theorem f134N (hS : Sh σ) (hC : cC σ 15 C) (hO : OkC C) (hc : cS σ 26 (pe C) s) (hk : Ok (pe C) s) {p much : Nat} (hp : p < pe C) (hm : much ≤ 594) : ∃ τ, (τ = σ ∨ τ = wl σ s) ∧ f134 0 (nI p) (nI much) σ = some (lN (if much = 0 then 1000000000000 else if tb (lv s) p then sm (oddQ C s p much) 64 else 0), τ) := by
  have h6 := hO.1
  have hp6 : p < 6 := by omega
  unfold f134
  by_cases e0 : much = 0
  · refine ⟨σ, Or.inl rfl, ?_⟩
    rw [e0, if_pos (show nI 0 = 0 from rfl), if_pos rfl]
    rfl
  · rw [if_neg (fun h => e0 ((nI_eq (by omega) (by omega)).mp (h.trans nI_0.symm))), if_neg e0]
    simp only [acC hS, Option.bind_some, f48_26 hS hc hk hp6, bo_0]
    cases e1 : tb (lv s) p
    · exact ⟨σ, Or.inl rfl, by simp; rfl⟩
    · refine ⟨wl σ s, Or.inr rfl, ?_⟩
      rw [if_neg (by simp), if_pos rfl]
      simp only [acC hS, Option.bind_some, f129N hS hc hk]
      have hS' := wl_sh (s := s) hS
      have hH' := wl_cH σ s
      have hC' := wl_cC (s := s) hC
      have hc' := wl_cS (s := s) (Or.inl rfl) hc
      generalize wl σ s = σ at hS' hH' hC' hc' ⊢
      refine lp (fun m j => f134_31 m 0 (nI p) (nI much) (lN (sm (oddQ C s p much) j)) (nI j) σ) 64 (fun j hj m r hn => ?_) (fun m => ?_) 64 1100 0 rfl (by omega)
      · simp only [sm] at hn
        show f134_31 (m + 1) _ _ _ _ _ _ = _
        unfold f134_31 f134_88
        rw [if_neg (show ¬ (64 : Int32) ≤ nI j from nI_ge (b := 64) hj (by omega))]
        simp only [acC hS', Option.bind_some, f118_eq hS' hc', f124N hj hp6, bo_0, nI_1]
        rw [show oddQ C s p much j = if lset s (nI j) && (!tb j p && decide (much ≤ hasB s j p)) then lik C j (dif (lv s) j) else 0 from rfl] at hn
        cases e2 : lset s (nI j)
        · simpa [e2] using hn
        · have hsub := (lset_nI hk.lv64 hj).mp e2
          rw [if_neg (by simp)]
          cases e3 : tb j p
          · rw [if_pos rfl]
            have hB := f131N hS' hH' hc' hk hj (sub_n hk hsub) hp
            have hB594 := hasB_le (p := p) hk hp hsub
            simp only [hB, acC hS', Option.bind_some, nI_ltI (show hasB s j p < 2 ^ 31 by omega) (show much < 2 ^ 31 by omega), hc'.2.2.1]
            by_cases e4 : hasB s j p < much
            · rw [if_pos e4]
              have : ¬ much ≤ hasB s j p := by omega
              simpa [e2, e3, this] using hn
            · rw [if_neg e4, difN _ hk.lv64 _ hj, f132N hS' hC' hO hj (dif_lt hk.lv64) (sub_n hk hsub) (fun x hx => ?_), Option.bind_some]
              · simp only
                rw [lN_add]
                have : much ≤ hasB s j p := by omega
                simpa [e2, e3, this] using hn
              · by_cases h : x < 6
                · rw [tb_dif hj h, Bool.and_eq_true] at hx
                  exact hk.lvn hx.1
                · rw [tb_lt (k := 6) (dif_lt hk.lv64) (by omega)] at hx
                  cases hx
          · rw [if_neg (by simp)]
            simpa [e2, e3] using hn
      · show f134_31 (m + 1) _ _ _ _ _ _ = _
        unfold f134_31 f134_94
        rw [if_pos (show (64 : Int32) ≤ nI 64 by decide)]
end CLASS
/-- Euclid's steps -/
def gcF : Nat → Nat → Nat → Nat
  | 0, x, _ => x
  | k + 1, x, y => if y = 0 then x else gcF k y (x % y)
theorem gcF_eq : ∀ (j k x y : Nat), y < 2 ^ j → 2 * j + 1 ≤ k → gcF k x y = Nat.gcd x y := by
  intro j
  induction j with
  | zero =>
    intro k x y hy hk
    obtain ⟨k, rfl⟩ : ∃ i, k = i + 1 := ⟨k - 1, by omega⟩
    have : y = 0 := by simp at hy; exact hy
    unfold gcF
    rw [if_pos this, this, Nat.gcd_zero_right]
  | succ j ih =>
    intro k x y hy hk
    obtain ⟨k, rfl⟩ : ∃ i, k = i + 2 := ⟨k - 2, by omega⟩
    unfold gcF
    by_cases e : y = 0
    · rw [if_pos e, e, Nat.gcd_zero_right]
    · rw [if_neg e]
      unfold gcF
      have hg : Nat.gcd x y = Nat.gcd y (x % y) := by
        rw [Nat.gcd_comm x y, Nat.gcd_rec y x, Nat.gcd_comm]
      by_cases e2 : x % y = 0
      · rw [if_pos e2, hg, e2, Nat.gcd_zero_right]
      · rw [if_neg e2, ih k (x % y) (y % (x % y)) ?_ (by omega), hg, Nat.gcd_comm y (x % y), Nat.gcd_rec (x % y) y, Nat.gcd_comm]
        have h1 : x % y < y := Nat.mod_lt _ (by omega)
        have h2 : y % (x % y) < x % y := Nat.mod_lt _ (by omega)
        have h3 : y % (x % y) + (x % y) ≤ y := by
          have h4 := Nat.div_add_mod y (x % y)
          have h5 : 1 ≤ y / (x % y) := (Nat.one_le_div_iff (by omega)).mpr (by omega)
          have h6 : (x % y) * 1 ≤ (x % y) * (y / (x % y)) := Nat.mul_le_mul_left _ h5
          omega
        rw [Nat.pow_succ] at hy
        omega
theorem gcF_le : ∀ (k x y B : Nat), x < B → y < B → gcF k x y < B := by
  intro k
  induction k with
  | zero => intro x y B hx _; exact hx
  | succ k ih =>
    intro x y B hx hy
    unfold gcF
    split
    · exact hx
    · exact ih _ _ _ hy (Nat.lt_of_le_of_lt (Nat.mod_le _ _) hx)
theorem lN_0' {y : Nat} (hy : y < 2 ^ 63) : (lg_cmp (lN y) 0 = 0) = (y = 0) := by
  rw [lg_cmp_eq, show (0 : Int64) = lN 0 from rfl]
  exact propext (pk_lEQ hy (by decide))
theorem rJN {x y : Nat} (hx : x < 2 ^ 63) (h0 : y ≠ 0) (hy : y < 2 ^ 63) : rJ (lN x) (lN y) = some (lN (x % y)) := by
  unfold rJ
  rw [if_neg (fun h => h0 ((pk_lEQ hy (by decide)).mp (h.trans (show (0 : Int64) = lN 0 from rfl)))), pk_lRem hx (by omega) hy]
theorem dJN {x y : Nat} (hx : x < 2 ^ 63) (h0 : y ≠ 0) (hy : y < 2 ^ 63) : dJ (lN x) (lN y) = some (lN (x / y)) := by
  unfold dJ
  rw [if_neg (fun h => h0 ((pk_lEQ hy (by decide)).mp (h.trans (show (0 : Int64) = lN 0 from rfl)))), pk_lDiv hx (by omega) hy]
theorem f136_9N (σ : xM) : ∀ (k m x y : Nat), k ≤ 200 → k + 1 ≤ m → x < 2 ^ 63 → y < 2 ^ 63 → f136_9 m (lN x) (lN y) (nI (200 - k)) σ = some (lN (gcF k x y), σ) := by
  intro k
  induction k with
  | zero =>
    intro m x y _ hm _ _
    obtain ⟨m, rfl⟩ : ∃ k, m = k + 1 := ⟨m - 1, by omega⟩
    unfold f136_9
    rw [if_pos (show (200 : Int32) ≤ nI (200 - 0) by decide)]
    rfl
  | succ k ih =>
    intro m x y hk hm hx hy
    obtain ⟨m, rfl⟩ : ∃ k, m = k + 1 := ⟨m - 1, by omega⟩
    have hnext : nI (200 - (k + 1)) + 1 = nI (200 - k) := by rw [nI_1]; congr 1; omega
    unfold f136_9 f136_45 gcF
    rw [if_neg (show ¬ (200 : Int32) ≤ nI (200 - (k + 1)) from nI_ge (b := 200) (by omega) (by omega))]
    simp only [lN_0' hy]
    by_cases e : y = 0
    · rw [if_pos e, if_pos e]
    · rw [if_neg e, if_neg e, rJN hx e hy, Option.bind_some, hnext]
      exact ih m y (x % y) (by omega) (by omega) hy (Nat.lt_of_le_of_lt (Nat.mod_le _ _) hx)
/-- LastAsked.term -/
theorem f135N (σ : xM) {x : Nat} (hx : x < 2 ^ 60) (b : Int32) : f135 (lN x) b σ = some (lN (if b = 0 then x / Nat.gcd 1000000000000 x else 1000000000000 / Nat.gcd 1000000000000 x), σ) := by
  have hg0 : Nat.gcd 1000000000000 x ≠ 0 := by
    intro h
    have := Nat.eq_zero_of_gcd_eq_zero_left h
    exact absurd this (by decide)
  have hg1 : Nat.gcd 1000000000000 x < 2 ^ 63 := Nat.lt_of_le_of_lt (Nat.le_of_dvd (by decide) (Nat.gcd_dvd_left _ _)) (by decide)
  have h1 : f136 1000000000000 (lN x) σ = some (lN (Nat.gcd 1000000000000 x), σ) := by
    unfold f136
    have := f136_9N σ 200 1100 1000000000000 x (by omega) (by omega) (by decide) (Nat.lt_trans hx (by decide))
    rw [gcF_eq 60 200 _ _ hx (by omega)] at this
    exact this
  unfold f135 f135_33
  rw [h1, Option.bind_some]
  simp only [lg_cmp_gt]
  rw [show (0 : Int64) = lN 0 from rfl, if_pos ((pk_lLT (by decide) hg1).mpr (by omega)), dJN (Nat.lt_trans hx (by decide)) hg0 hg1, show (1000000000000 : Int64) = lN 1000000000000 from rfl, dJN (by decide) hg0 hg1]
  by_cases e : b = 0
  · rw [if_pos e, if_pos e]
    rfl
  · rw [if_neg e, if_neg e]
    rfl
