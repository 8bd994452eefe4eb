/-! THE REFERENCE: rows worked on, heirs, where all goes, what each has behind a night -/
/-- the living's heirs are found -/
def mH (σ : xM) (n : Nat) (s : Sta) : Prop := ∀ p, p < n → mI σ 108 p = ob (hei s p)
/-- to whom nobody comes: the cat gets -/
def catT (s : Sta) (set : Nat) : Nat := sm (fun q => if tb set q && decide (enN s set q = none) then hs s q else 0) 6
def P105 : Nat → Nat → Bool := fun a _ => Nat.beq a 105
def P108 : Nat → Nat → Bool := fun a _ => Nat.beq a 108
/-- what dying writes -/
def Pdy : Nat → Nat → Bool := fun a k => Nat.beq a 109 || (Nat.beq a 102 && Nat.beq k 24)
theorem lo_of {l : List Nat} (h : l.all (fun a => Nat.blt a 115) = true) : lo (fun a _ => l.any (fun b => Nat.beq a b)) := fun a k ha => by
  rw [Bool.eq_false_iff]
  intro h2
  rw [List.any_eq_true] at h2
  obtain ⟨x, hx, e⟩ := h2
  rw [List.all_eq_true] at h
  have := h x hx
  rw [Nat.beq_eq] at e
  rw [Nat.blt_eq] at this
  omega
theorem beqF {a b : Nat} (h : a ≠ b) : Nat.beq a b = false := by
  rw [Bool.eq_false_iff]
  intro e
  rw [Nat.beq_eq] at e
  exact h e
theorem nI_m2 {k : Nat} (h : k < 6) : ¬ nI k = -2 := ob_ne h
theorem lo105 : lo P105 := fun a k ha => beqF (by omega)
theorem lo108 : lo P108 := fun a k ha => beqF (by omega)
theorem loDy : lo Pdy := fun a k ha => by
  unfold Pdy
  rw [beqF (show a ≠ 109 by omega), beqF (show a ≠ 102 by omega)]
  rfl
section REF
variable {σ : xM} {c n : Nat} {s : Sta} {C : Cty}
def wk (σ : xM) : xM := wr σ 105 (mI σ 104) 47
/-- works -/
theorem f188N (hS : Sh σ) : f188 102 σ = some (wk σ) := by
  unfold f188 wk
  refine lp (fun m j => f188_2 m 102 (nI j) (wr σ 105 (mI σ 104) j)) 47 (fun j hj m r hn => ?_) (fun m => ?_) 47 1100 0 rfl (by omega)
  · simp only [wr] at hn
    have hS' : Sh (wr σ 105 (mI σ 104) j) := by rw [Sh_wr]; exact hS
    have e : mI (wr σ 105 (mI σ 104) j) 104 j = mI σ 104 j := by rw [mI_wr, if_neg (fun h => absurd h.1 (by decide))]
    show f188_2 (m + 1) _ _ _ = _
    unfold f188_2
    rw [if_neg (show ¬ (47 : Int32) ≤ nI j from nI_ge (b := 47) hj (by omega))]
    simp only [acM hS', Option.bind_some, hj, e, nI_1]
    exact hn
  · show f188_2 (m + 1) _ _ _ = _
    unfold f188_2 f188_26
    rw [if_pos (show (47 : Int32) ≤ nI 47 by decide)]
theorem wk_row (hv : mrow (mI σ 104) n s) (hn : n ≤ 6) : mrow (mI (wk σ) 105) n s := by
  have e : ∀ i, i < 47 → mI (wk σ) 105 i = mI σ 104 i := fun i hi => by
    unfold wk
    rw [mI_wr, if_pos ⟨rfl, hi⟩]
  obtain ⟨c1, c2, c3, c4, c5, c6, c7⟩ := hv
  refine ⟨fun p hp => ?_, fun p hp q hq => ?_, ?_, ?_, ?_, ?_, ?_⟩
  · rw [e p (by omega)]; exact c1 p hp
  · rw [e _ (by omega)]; exact c2 p hp q hq
  all_goals rw [e _ (by omega)]; assumption
theorem wk_upd : Upd P105 σ (wk σ) := Upd.refl.wr (fun _ _ => rfl)
def hsW (σ : xM) (n : Nat) (s : Sta) : xM := wr σ 108 (fun p => ob (hei s p)) n
theorem row_upd {P : Nat → Nat → Bool} {σ τ : xM} (h : Upd P σ τ) {a n : Nat} {s : Sta} (h1 : ∀ k, P a k = false) (hc : mrow (mI σ a) n s) : mrow (mI τ a) n s := by
  have e : mI τ a = mI σ a := funext (fun k => h.2.1 a k (h1 k))
  rw [e]
  exact hc
/-- heirs -/
theorem f193N (hT : hasT σ c) (hp : mI σ c 2 = nI n) (hx : mrow (mI σ 105) n s) (hk : Ok n s) : f193 102 σ = some (hsW σ n s) := by
  have h6 := hk.1
  have hc := hT.2.1.1
  unfold f193 hsW
  refine lp (fun m j => f193_2 m 102 (nI j) (wr σ 108 (fun p => ob (hei s p)) j)) n (fun j hj m r hn => ?_) (fun m => ?_) n 1100 0 (by omega) (by omega)
  · simp only [wr] at hn
    have hT' : hasT (wr σ 108 (fun p => ob (hei s p)) j) c := by rw [hasT_wr]; exact hT
    have hu : Upd P108 σ (wr σ 108 (fun p => ob (hei s p)) j) := Upd.refl.wr (fun _ _ => rfl)
    have e : mI (wr σ 108 (fun p => ob (hei s p)) j) c 2 = nI n := by rw [mI_wr, if_neg (fun h => by have := h.1; omega)]; exact hp
    show f193_2 (m + 1) _ _ _ = _
    unfold f193_2
    simp only [acM hT'.1, acG hT', acT0 hT'.2.1, Option.bind_some, e, f192N hT' e (row_upd hu (fun _ => rfl) hx) hk (show j < 6 by omega), show j < 6 by omega, nI_1]
    rw [if_neg (nI_ge hj (by omega))]
    exact hn
  · have hT' : hasT (wr σ 108 (fun p => ob (hei s p)) n) c := by rw [hasT_wr]; exact hT
    have e : mI (wr σ 108 (fun p => ob (hei s p)) n) c 2 = nI n := by rw [mI_wr, if_neg (fun h => by have := h.1; omega)]; exact hp
    show f193_2 (m + 1) _ _ _ = _
    unfold f193_2 f193_30
    simp only [acG hT', acT0 hT'.2.1, Option.bind_some, e]
    rw [if_pos (nI_le (by omega) (by omega))]
theorem hsW_H : mH (hsW σ n s) n s := fun p hp => by
  unfold hsW
  rw [mI_wr, if_pos ⟨rfl, hp⟩]
theorem hsW_upd : Upd P108 σ (hsW σ n s) := Upd.refl.wr (fun _ _ => rfl)
/-- goes, from one who is dying -/
theorem f194_5N (hS : Sh σ) (hH : mH σ n s) (hk : Ok n s) {set : Nat} (hset : set < 64) (hsub : sub set (lv s)) : ∀ (k m seen a : Nat), k + 2 ≤ m → seen < 64 → a < 6 → tb set a = true → tb seen a = false → sub seen set → 6 ≤ cn seen + k → f194_5 m 102 (nI set) (nI seen) (nI a) σ = some (ob (endF (hN s) set k seen a), σ) := by
  have h6 := hk.1
  intro k
  induction k with
  | zero =>
    intro m seen a _ hs64 ha6 _ hna _ hcn
    rw [cn_full seen hs64 (by omega) a ha6] at hna
    cases hna
  | succ k ih =>
    intro m seen a hm hs64 ha6 hsa hna hss hcn
    obtain ⟨m, rfl⟩ : ∃ k, m = k + 2 := ⟨m - 2, by omega⟩
    have hla := hsub a hsa
    have han := hk.lvn hla
    have hcn2 := cn_or seen hs64 a ha6 hna
    have hHa : mI σ 108 a = ob (hN s a) := by rw [hH a han]; unfold hN; rw [if_pos hla]
    unfold f194_5 f194_52
    rw [if_neg (nI_m2 ha6)]
    simp only [acM hS, Option.bind_some, f157N hset ha6, f157N hs64 ha6, hsa, hna, bo_0, ha6, hHa, orN seen hs64 a ha6]
    rw [if_neg (by simp), if_pos trivial]
    unfold endF
    cases e : hN s a with
    | none => simp [f194_5, f194_52, ob]
    | some b =>
      have hb := hN_6 s a b e
      simp only [ob_some]
      cases e1 : tb (seen ||| 2 ^ a) b
      · cases e2 : tb set b
        · unfold f194_5 f194_52
          rw [if_neg (nI_m2 hb)]
          simp [f157N hset hb, e2, bo_0, ob]
        · rw [if_neg (by simp), if_pos rfl]
          exact ih (m + 1) (seen ||| 2 ^ a) b (by omega) (or_lt hs64 ha6) hb e2 e1 (sub_or hss hsa) (by omega)
      · have e2 : tb set b = true := sub_or hss hsa b e1
        unfold f194_5 f194_52
        rw [if_neg (nI_m2 hb)]
        simp [f157N hset hb, f157N (or_lt hs64 ha6) hb, e1, e2, bo_0, ob]
theorem f194N (hS : Sh σ) (hH : mH σ n s) (hk : Ok n s) {set p : Nat} (hset : set < 64) (hsub : sub set (lv s)) (hp : tb set p = true) : f194 102 (nI p) (nI set) σ = some (ob (enN s set p), σ) := by
  have hp6 : p < 6 := by have := hk.1; have := hk.lvn (hsub p hp); omega
  unfold f194
  exact f194_5N hS hH hk hset hsub 6 1100 0 p (by omega) (by omega) hp6 hp (tb_0 p) (fun i hi => by rw [tb_0] at hi; cases hi) (by omega)
theorem en_live {s : Sta} {set : Nat} : ∀ k had a b, endF (hN s) set k had a = some b → tb (lv s) b = true := by
  intro k
  induction k with
  | zero => intro had a b e; cases e
  | succ k ih =>
    intro had a b e
    unfold endF at e
    split at e
    · cases e
    · rename_i b2 hb
      split at e
      · cases e
      · split at e
        · exact ih _ _ _ e
        · cases e
          exact (hN_ok hb).2.2
/-- dying: what each has then, what the cat gets -/
theorem f195N (hT : hasT σ c) (hp : mI σ c 2 = nI n) (hx : mrow (mI σ 105) n s) (hk : Ok n s) (hH : mH σ n s) {set : Nat} (hset : set < 64) (hsub : sub set (lv s)) : ∃ τ, f195 102 (nI set) σ = some τ ∧ Upd Pdy σ τ ∧ (∀ p, p < n → mI τ 109 p = nI (hasB s set p)) ∧ mI τ 102 24 = nI (catT s set) := by
  have h6 := hk.1
  have hcc := hT.2.1.1
  -- the first loop
  let f : Nat → Int32 := fun p => nI (if tb set p then 0 else hs s p)
  have L1 : ∀ r, f195_56 102 (nI set) (wr (wI σ 102 24 0) 109 f n) = r → f195 102 (nI set) σ = r := by
    intro r hr
    unfold f195
    simp only [acM hT.1, Option.bind_some]
    refine lp (fun m j => f195_7 m 102 (nI set) (nI j) (wr (wI σ 102 24 0) 109 f j)) n (fun j hj m r hn => ?_) (fun m => ?_) n 1100 0 (by omega) (by omega)
    · have hj6 : j < 6 := by omega
      simp only [wr] at hn
      have hT' : hasT (wr (wI σ 102 24 0) 109 f j) c := by rw [hasT_wr]; exact hT
      have hu : Upd Pdy σ (wr (wI σ 102 24 0) 109 f j) := (Upd.refl.wI rfl).wr (fun _ _ => rfl)
      have e : mI (wr (wI σ 102 24 0) 109 f j) c 2 = nI n := (hu.2.1 c 2 (loDy c 2 hcc)).trans hp
      have hx' := row_upd (a := 105) hu (fun _ => rfl) hx
      show f195_7 (m + 1) _ _ _ _ = _
      unfold f195_7 f195_39 f195_49
      simp only [acM hT'.1, acG hT', acT0 hT'.2.1, Option.bind_some, e, f157N hset hj6, f190N hT'.1 hx' hk hj6, bo_0, show j < 47 by omega, hx'.1 j hj, hj6, nI_1]
      rw [if_neg (nI_ge hj (by omega))]
      rw [show f j = nI (if tb set j then 0 else hs s j) from rfl] at hn
      cases e1 : tb set j
      · rw [if_pos rfl]
        simp only [e1] at hn
        rw [if_neg (by simp)] at hn
        cases e2 : tb (lv s) j
        · rw [if_pos rfl]
          rw [hk.2.2.1 j hj e2] at hn
          exact hn
        · rw [if_neg (by simp)]
          exact hn
      · rw [if_neg (by simp)]
        simp only [e1] at hn
        rw [if_pos trivial] at hn
        exact hn
    · have hT' : hasT (wr (wI σ 102 24 0) 109 f n) c := by rw [hasT_wr]; exact hT
      have hu : Upd Pdy σ (wr (wI σ 102 24 0) 109 f n) := (Upd.refl.wI rfl).wr (fun _ _ => rfl)
      have e : mI (wr (wI σ 102 24 0) 109 f n) c 2 = nI n := (hu.2.1 c 2 (loDy c 2 hcc)).trans hp
      show f195_7 (m + 1) _ _ _ _ = _
      unfold f195_7
      simp only [acG hT', acT0 hT'.2.1, Option.bind_some, e]
      rw [if_pos (nI_le (by omega) (by omega))]
      exact hr
  rw [L1 _ rfl]
  -- the second loop
  unfold f195_56
  let I : Nat → xM → Prop := fun j τ => Upd Pdy σ τ ∧ (∀ p, p < n → mI τ 109 p = nI ((if tb set p then 0 else hs s p) + sm (fun q => if tb set q && decide (enN s set q = some p) then hs s q else 0) j)) ∧ mI τ 102 24 = nI (sm (fun q => if tb set q && decide (enN s set q = none) then hs s q else 0) j)
  refine lpI (fun m j τ => f195_58 m 102 (nI set) (nI j) τ) n I (fun o => ∃ τ, o = some τ ∧ Upd Pdy σ τ ∧ (∀ p, p < n → mI τ 109 p = nI (hasB s set p)) ∧ mI τ 102 24 = nI (catT s set)) (fun j hj m τ hI => ?_) (fun m τ hI => ?_) n 1100 0 _ (by omega) (by omega) ?_
  · obtain ⟨hu, ht, hcat⟩ := hI
    have hj6 : j < 6 := by omega
    have hT' := hu.hasT hT
    have e : mI τ c 2 = nI n := (hu.2.1 c 2 (loDy c 2 hcc)).trans hp
    have hx' := row_upd (a := 105) hu (fun _ => rfl) hx
    have hH' : mH τ n s := fun p hp => by rw [hu.2.1 108 p rfl]; exact hH p hp
    show ∃ τ', I (j + 1) τ' ∧ f195_58 (m + 1) _ _ _ _ = f195_58 m _ _ _ _
    cases e1 : tb set j
    · refine ⟨τ, ⟨hu, fun p hp => ?_, ?_⟩, ?_⟩
      · rw [ht p hp]
        simp [sm, e1]
      · rw [hcat]
        simp [sm, e1]
      · rw [f195_58]
        unfold f195_126
        simp only [acG hT', acT0 hT'.2.1, Option.bind_some, e, f157N hset hj6, bo_0, e1, nI_1]
        rw [if_neg (nI_ge hj (by omega)), if_pos trivial]
    · have hgo := f194N hT'.1 hH' hk hset hsub e1
      cases e2 : enN s set j with
      | none =>
        refine ⟨wI τ 102 24 (nI (sm (fun q => if tb set q && decide (enN s set q = none) then hs s q else 0) (j + 1))), ⟨hu.wI rfl, fun p hp => ?_, ?_⟩, ?_⟩
        · rw [mI_w, if_neg (fun h => absurd h.1 (by decide)), ht p hp]
          simp [sm, e1, e2]
        · rw [mI_w, if_pos ⟨rfl, rfl⟩]
        · rw [f195_58]
          unfold f195_126
          simp only [acM hT'.1, acG hT', acT0 hT'.2.1, Option.bind_some, e, f157N hset hj6, bo_0, e1, nI_1, hgo, e2, hcat, show j < 47 by omega, hx'.1 j hj, nI_add]
          rw [if_neg (nI_ge hj (by omega)), if_neg (by simp), if_pos (show ob none = -2 from rfl)]
          simp [sm, e1, e2]
      | some b =>
        have hb6 := enN_6 e2
        have hbn : b < n := hk.lvn (en_live _ _ _ _ e2)
        refine ⟨wI τ 109 b (nI ((if tb set b then 0 else hs s b) + sm (fun q => if tb set q && decide (enN s set q = some b) then hs s q else 0) (j + 1))), ⟨hu.wI rfl, fun p hp => ?_, ?_⟩, ?_⟩
        · rw [mI_w]
          by_cases ep : p = b
          · rw [if_pos ⟨rfl, ep⟩, ep]
          · rw [if_neg (fun h => ep h.2), ht p hp]
            have : ¬ b = p := fun h => ep h.symm
            simp [sm, e1, e2, this]
        · rw [mI_w, if_neg (fun h => absurd h.1 (by decide)), hcat]
          simp [sm, e1, e2]
        · rw [f195_58]
          unfold f195_126
          simp only [acM hT'.1, acG hT', acT0 hT'.2.1, Option.bind_some, e, f157N hset hj6, bo_0, e1, nI_1, hgo, e2, show j < 47 by omega, hx'.1 j hj]
          rw [if_neg (nI_ge hj (by omega)), if_neg (by simp), if_neg (ob_ne hb6)]
          simp only [ob_some, acM hT'.1, hb6, Option.bind_some, ht b hbn, nI_add]
          simp [sm, e1, e2, Nat.add_assoc]
  · obtain ⟨hu, ht, hcat⟩ := hI
    have hT' := hu.hasT hT
    have e : mI τ c 2 = nI n := (hu.2.1 c 2 (loDy c 2 hcc)).trans hp
    have hbey : ∀ i, n ≤ i → tb set i = false := fun i hi => by
      rw [Bool.eq_false_iff]
      intro h
      have := hk.lvn (hsub i h)
      omega
    refine ⟨τ, ?_, hu, fun p hp => ?_, ?_⟩
    · show f195_58 (m + 1) _ _ _ _ = _
      unfold f195_58 f195_132
      simp only [acG hT', acT0 hT'.2.1, Option.bind_some, e]
      rw [if_pos (nI_le (by omega) (by omega))]
    · rw [ht p hp]
      unfold hasB gets
      rw [sm_more (a := n) (b := 6) h6 (fun i h1 _ => by rw [hbey i h1]; rfl)]
      cases e1 : tb set p
      · simp
      · congr 1
        simp only [if_true, Nat.zero_add]
        rw [sm_congr (g := fun _ => 0), sm_zero]
        intro q hq
        rw [if_neg]
        intro h
        rw [Bool.and_eq_true, decide_eq_true_eq] at h
        have := endF_out _ _ _ _ h.2
        rw [e1] at this
        cases this
    · rw [hcat]
      unfold catT
      rw [sm_more (a := n) (b := 6) h6 (fun i h1 _ => by rw [hbey i h1]; rfl)]
  · refine ⟨(Upd.refl.wI rfl).wr (fun _ _ => rfl), fun p hp => ?_, ?_⟩
    · rw [mI_wr, if_pos ⟨rfl, hp⟩]
      rfl
    · rw [mI_wr, if_neg (fun h => absurd h.1 (by decide)), mI_w, if_pos ⟨rfl, rfl⟩]
      rfl
end REF
