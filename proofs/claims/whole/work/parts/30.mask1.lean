/-! THE REFERENCE'S ANSWERS, first half -/
def PmQ : Nat → Nat → Bool := fun a k => [105, 108, 109, 110, 111, 112, 113, 114].any (fun b => Nat.beq a b) || (Nat.beq a 102 && [0, 1, 2, 24, 25, 26, 29, 33, 34, 35, 36].any (fun b => Nat.beq k b))
theorem anyF {l : List Nat} {a : Nat} (h : ∀ b, b ∈ l → a ≠ b) : l.any (fun b => Nat.beq a b) = false := by
  rw [List.any_eq_false]
  intro b hb
  rw [beqF (h b hb)]
  simp
theorem loQ : lo PmQ := fun a k ha => by
  unfold PmQ
  rw [anyF (fun b hb => ?_), beqF (show a ≠ 102 by omega)]
  · rfl
  · simp at hb
    omega
/-- the reference as a call that asks finds it -/
def QM (σ : xM) (C : Cty) (s : Sta) : Prop := Sh σ ∧ Ok (pe C) s ∧ mrow (mI σ 104) (pe C) s ∧ ((pe C = 0 ∧ mR σ 102 3 = none) ∨ (0 < pe C ∧ OkC C ∧ ∃ c, hasT σ c ∧ mC σ c C))
theorem QM_upd {σ τ : xM} {C : Cty} {s : Sta} (hu : Upd PmQ σ τ) (h : QM σ C s) : QM τ C s := by
  obtain ⟨h1, h2, h3, h4⟩ := h
  refine ⟨hu.sh h1, h2, row_upd hu (fun _ => rfl) h3, ?_⟩
  rcases h4 with ⟨a, b⟩ | ⟨a, b, c, d, e⟩
  · exact Or.inl ⟨a, by rw [hu.1.2.2.1]; exact b⟩
  · exact Or.inr ⟨a, b, c, hu.hasT d, mC_lo hu loQ d.2.1.1 e⟩
def mQ {α : Type} (σ : xM) (o : Option (α × xM)) (a : α × Int32) : Prop := ∃ τ, o = some (a.1, τ) ∧ Upd PmQ σ τ ∧ mI τ 102 1 = a.2 ∧ mI τ 102 2 = -1 ∧ mI τ 102 0 = 0
def gd (σ : xM) (r : Int32) : xM := wI (wI σ 102 1 r) 102 2 (-1)
theorem mQ_gd {α : Type} {σ τ : xM} {x : α} {r : Int32} (hu : Upd PmQ σ τ) (h0 : mI τ 102 0 = 0) : mQ σ (some (x, gd τ r)) (x, r) := by
  refine ⟨_, rfl, (hu.wI rfl).wI rfl, ?_, ?_, ?_⟩
  · unfold gd
    rw [mI_w, if_neg (fun h => absurd h.2 (by decide)), mI_w, if_pos ⟨rfl, rfl⟩]
  · unfold gd
    rw [mI_w, if_pos ⟨rfl, rfl⟩]
  · unfold gd
    rw [mI_w, if_neg (fun h => absurd h.2 (by decide)), mI_w, if_neg (fun h => absurd h.2 (by decide))]
    exact h0
theorem f151N {σ : xM} (hS : Sh σ) (r : Int32) : f151 102 r σ = some (-1, gd σ r) := by
  unfold f151 gd
  simp only [acM hS, Option.bind_some, acM (show Sh (wI σ 102 1 r) from hS)]
theorem f154N {σ : xM} (hS : Sh σ) (v : Int32) : f154 102 v σ = some (v, gd σ 0) := by
  unfold f154 gd
  simp only [acM hS, Option.bind_some, acM (show Sh (wI σ 102 1 0) from hS)]
/-- a call begins -/
def th (σ : xM) : xM := wI σ 102 0 0
theorem th_upd {σ : xM} : Upd PmQ σ (th σ) := Upd.refl.wI rfl
theorem th_0 {σ : xM} : mI (th σ) 102 0 = 0 := by unfold th; rw [mI_w, if_pos ⟨rfl, rfl⟩]
theorem isP_0 (p : Int32) : isP 0 p = false := by
  unfold isP
  rw [decide_eq_false_iff_not]
  intro h
  exact h.1 (Int32.not_le.mp h.2)
theorem two_0 (p q : Int32) : two 0 p q = false := by unfold two; rw [isP_0]; rfl
section REF
variable {σ : xM} {c n : Nat} {s : Sta} {C : Cty}
theorem gQ_none (hS : Sh σ) (h : mR σ 102 3 = none) : gQ σ 102 9 3 = some none := by
  rw [show gQ σ 102 9 3 = some (mR σ 102 3) from gQ_ok (sh_n hS (by decide)) (sh_k hS (by decide)), h]
theorem f186Q (h : QM σ C s) (p : Int32) : f186 102 p σ = some (bo (isP (pe C) p), σ) := by
  obtain ⟨hS, hk, -, hc⟩ := h
  rcases hc with ⟨a, b⟩ | ⟨a, b, c, d, e⟩
  · unfold f186 f186_26 f186_27
    rw [gQ_none hS b, a, isP_0]
    rfl
  · exact f186N d hk.1 e.1.2.2.1 p
theorem f187Q (h : QM σ C s) (p q : Int32) : f187 102 p q σ = some (bo (two (pe C) p q), σ) := by
  unfold f187 f187_25 f187_26
  simp only [acM h.1, Option.bind_some, f186Q h, bo_0, rZ0, rZ1]
  unfold two
  cases isP (pe C) p <;> cases isP (pe C) q <;> simp
  by_cases e : p = q <;> simp [e]
theorem f203Q (h : QM σ C s) (p : Int32) : f203 102 p σ = some (lvOr (pe C) s p, σ) := by
  obtain ⟨hS, hk, hv, hc⟩ := id h
  unfold f203 f203_31 lvOr
  simp only [acM hS, Option.bind_some, f186Q h, bo_0, litM, show 42 < 47 by omega, hv.2.2.1]
  cases h : isP (pe C) p
  · simp
  · obtain ⟨j, hj, rfl⟩ := isP_nI hk.1 h
    have hj6 : j < 6 := by have := hk.1; omega
    simp only [f157N hk.lv64 hj6, Option.bind_some, bo_0, inN _ hk.lv64 _ hj6]
    cases tb (lv s) j <;> simp
/-- the reference at work on a row of state s -/
def AM (σ : xM) (c : Nat) (C : Cty) (s : Sta) : Prop := hasT σ c ∧ mC σ c C ∧ OkC C ∧ mrow (mI σ 105) (pe C) s ∧ Ok (pe C) s
theorem AM_upd {P : Nat → Nat → Bool} {τ : xM} (hu : Upd P σ τ) (hP : lo P) (h5 : ∀ k, P 105 k = false) (h : AM σ c C s) : AM τ c C s := by
  obtain ⟨h1, h2, h3, h4, h6⟩ := h
  exact ⟨hu.hasT h1, mC_lo hu hP h1.2.1.1 h2, h3, row_upd hu h5 h4, h6⟩
theorem AM_w {k : Nat} {x : Int32} (h : AM σ c C s) : AM (wI σ 102 k x) c C s := by
  refine AM_upd (P := fun a _ => Nat.beq a 102) (Upd.refl.wI rfl) (fun a k ha => beqF (by omega)) (fun _ => rfl) h
theorem AM_wJ {k : Nat} {x : Int64} (h : AM σ c C s) : AM (wJ σ 102 k x) c C s := by
  refine AM_upd (P := fun a _ => Nat.beq a 102) (Upd.refl.wJ rfl) (fun a k ha => beqF (by omega)) (fun _ => rfl) h
theorem mH_upd {P : Nat → Nat → Bool} {τ : xM} (hu : Upd P σ τ) (h8 : ∀ k, P 108 k = false) (h : mH σ n s) : mH τ n s := fun p hp => (hu.2.1 108 p (h8 p)).trans (h p hp)
theorem mH_w {k : Nat} {x : Int32} (h : mH σ n s) : mH (wI σ 102 k x) n s := mH_upd (P := fun a _ => Nat.beq a 102) (Upd.refl.wI rfl) (fun _ => rfl) h
theorem mH_wJ {k : Nat} {x : Int64} (h : mH σ n s) : mH (wJ σ 102 k x) n s := mH_upd (P := fun a _ => Nat.beq a 102) (Upd.refl.wJ rfl) (fun _ => rfl) h
/-- works, then heirs -/
def ww (σ : xM) (n : Nat) (s : Sta) : xM := hsW (wk σ) n s
theorem ww_upd : Upd PmQ σ (ww σ n s) := (wk_upd.mono (fun a k h => by
  unfold PmQ at h
  rw [Bool.or_eq_false_iff] at h
  have := List.any_eq_false.mp h.1 105 (by simp)
  exact beqF (by simpa using this))).trans (hsW_upd.mono (fun a k h => by
  unfold PmQ at h
  rw [Bool.or_eq_false_iff] at h
  have := List.any_eq_false.mp h.1 108 (by simp)
  exact beqF (by simpa using this)))
theorem wk_AM (h : hasT σ c) (hm : mC σ c C) (hO : OkC C) (hv : mrow (mI σ 104) (pe C) s) (hk : Ok (pe C) s) : AM (wk σ) c C s :=
  ⟨wk_upd.hasT h, mC_lo wk_upd lo105 h.2.1.1 hm, hO, wk_row hv hk.1, hk⟩
theorem f197N (h : hasT σ c) (hm : mC σ c C) (hO : OkC C) (hv : mrow (mI σ 104) (pe C) s) (hk : Ok (pe C) s) : f197 102 σ = some (ww σ (pe C) s) ∧ AM (ww σ (pe C) s) c C s ∧ mH (ww σ (pe C) s) (pe C) s := by
  have hA := wk_AM h hm hO hv hk
  refine ⟨?_, AM_upd hsW_upd lo108 (fun _ => rfl) hA, hsW_H⟩
  unfold f197 ww
  simp only [acM h.1, Option.bind_some, f188N h.1, acM hA.1.1, f193N hA.1 hA.2.1.1.2.2.1 hA.2.2.2.1 hk]
-- the answers that want no sums
theorem m202 (h : QM σ C s) (p q : Int32) : mQ σ (f202 102 p q σ) (aReg (pe C) s p q) := by
  have h1 := QM_upd th_upd h
  obtain ⟨hS1, hk, hv1, hc1⟩ := id h1
  unfold f202 aReg
  simp only [acM h.1, Option.bind_some]
  rw [show wI σ 102 0 0 = th σ from rfl]
  simp only [acM hS1, Option.bind_some, f187Q h1, bo_0]
  cases e : two (pe C) p q
  · simpa [f151N hS1] using mQ_gd th_upd th_0
  · obtain ⟨i, j, hi, hj, rfl, rfl, hij⟩ := two_of hk.1 e
    have h6 := hk.1
    rw [if_neg (by simp), if_pos rfl, pN_nI (by omega), pN_nI (by omega)]
    simp only [show (6 : Int32) = nI 6 from rfl, pk_mul, nI_add, show 6 + 6 * i + j < 47 by omega, Option.bind_some, hv1.2.1 i (show i < 6 by omega) j (show j < 6 by omega), rM_m1 (regb hk i j), f202_47, f154N hS1, acM hS1]
    cases e2 : rg s i j with
    | none => simpa [rC] using mQ_gd th_upd th_0
    | some y => simpa [rC, rM] using mQ_gd th_upd th_0
theorem lvOr_le {n : Nat} {s : Sta} {p : Int32} : (lvOr n s p ≤ 0) = (lvOr n s p = 0) := by
  unfold lvOr
  split
  · split <;> simp
  · simp
theorem m204 (h : QM σ C s) (p : Int32) : mQ σ (f204 102 p σ) (aHeir (pe C) s p) := by
  have h1 := QM_upd th_upd h
  obtain ⟨hS1, hk, hv1, hc1⟩ := id h1
  unfold f204 aHeir
  simp only [acM h.1, Option.bind_some]
  rw [show wI σ 102 0 0 = th σ from rfl]
  simp only [acM hS1, Option.bind_some, f203Q h1, lvOr_le, f151N hS1]
  by_cases e : lvOr (pe C) s p = 0
  · obtain ⟨j, hj, rfl, hl⟩ := lvOr_0 hk e
    have hj6 : j < 6 := by have := hk.1; omega
    rcases hc1 with ⟨a, b⟩ | ⟨a, hO, c, hT, hM⟩
    · omega
    · have hA := wk_AM hT hM hO hv1 hk
      rw [if_pos e, if_pos e, pN_nI hj6]
      simp only [f188N hS1, Option.bind_some, acM hA.1.1, f192N hA.1 hA.2.1.1.2.2.1 hA.2.2.2.1 hk hj6, f154N hA.1.1]
      rw [show hN s j = hei s j by unfold hN; rw [if_pos hl]]
      refine mQ_gd (th_upd.trans (wk_upd.mono (fun a k h => ?_))) ?_
      · unfold PmQ at h
        rw [Bool.or_eq_false_iff] at h
        have := List.any_eq_false.mp h.1 105 (by simp)
        exact beqF (by simpa using this)
      · rw [wk_upd.2.1 102 0 rfl]
        exact th_0
  · rw [if_neg e, if_neg e]
    exact mQ_gd th_upd th_0
/-- inheritsOf -/
theorem f205N (hA : AM σ c C s) (hH : mH σ (pe C) s) {p : Nat} (hp : p < 6) : f205 102 (nI p) σ = some (nI (hto s p), σ) := by
  obtain ⟨hT, hM, hO, hx, hk⟩ := hA
  have h6 := hk.1
  have e0 : hto s p = col (fun q => tb (lv s) q && decide (hN s q = some p)) (pe C) := col_more h6 (fun i h1 h2 => by
    rw [tb_lt hk.2.1 h1]
    simp)
  rw [e0]
  unfold f205
  refine lp (fun m j => f205_4 m 102 (nI p) (nI (col (fun q => tb (lv s) q && decide (hN s q = some p)) j)) (nI j) σ) (pe C) (fun j hj m r hn => ?_) (fun m => ?_) (pe C) 1100 0 (by omega) (by omega)
  · have hj6 : j < 6 := by omega
    simp only [col] at hn
    show f205_4 (m + 1) _ _ _ _ _ = _
    unfold f205_4 f205_40 f205_41
    simp only [acM hT.1, acG hT, acT0 hT.2.1, Option.bind_some, hM.1.2.2.1, f190N hT.1 hx hk hj6, bo_0, hj6, hH j hj, nI_1, or0]
    rw [if_neg (nI_ge hj (by omega))]
    cases e1 : tb (lv s) j
    · simpa [e1] using hn
    · rw [if_neg (by simp), show hei s j = hN s j by unfold hN; rw [if_pos e1]]
      have he : (ob (hN s j) = nI p) = (hN s j = some p) := propext (ob_eq (b := some p) (hN_6 s j) (fun k e => by cases e; exact hp))
      simp only [he]
      by_cases e2 : hN s j = some p
      · rw [if_pos e2, orN _ (col_lt _ j (show j ≤ 6 by omega)) j hj6]
        simpa [e1, e2] using hn
      · rw [if_neg e2]
        simpa [e1, e2] using hn
  · show f205_4 (m + 1) _ _ _ _ _ = _
    unfold f205_4 f205_49
    simp only [acG hT, acT0 hT.2.1, Option.bind_some, hM.1.2.2.1]
    rw [if_pos (nI_le (by omega) (by omega))]
/-- a call that works with heirs begins -/
theorem wwQ (h : QM σ C s) (hp : 0 < pe C) : ∃ c, f197 102 (th σ) = some (ww (th σ) (pe C) s) ∧ AM (ww (th σ) (pe C) s) c C s ∧ mH (ww (th σ) (pe C) s) (pe C) s ∧ Upd PmQ σ (ww (th σ) (pe C) s) ∧ mI (ww (th σ) (pe C) s) 102 0 = 0 ∧ mrow (mI (ww (th σ) (pe C) s) 104) (pe C) s := by
  have h1 := QM_upd th_upd h
  obtain ⟨hS1, hk, hv1, hc1⟩ := id h1
  rcases hc1 with ⟨a, b⟩ | ⟨a, hO, c, hT, hM⟩
  · omega
  · obtain ⟨r1, r2, r3⟩ := f197N hT hM hO hv1 hk
    refine ⟨c, r1, r2, r3, th_upd.trans ww_upd, ?_, row_upd ww_upd (fun _ => rfl) hv1⟩
    unfold ww
    rw [hsW_upd.2.1 102 0 rfl, wk_upd.2.1 102 0 rfl]
    exact th_0
theorem m206 (h : QM σ C s) (p : Int32) : mQ σ (f206 102 p σ) (aHto (pe C) s p) := by
  have h1 := QM_upd th_upd h
  obtain ⟨hS1, hk, hv1, hc1⟩ := id h1
  unfold f206 aHto
  simp only [acM h.1, Option.bind_some]
  rw [show wI σ 102 0 0 = th σ from rfl]
  simp only [acM hS1, Option.bind_some, f186Q h1, bo_0]
  cases e : isP (pe C) p
  · simpa [f151N hS1] using mQ_gd th_upd th_0
  · obtain ⟨j, hj, rfl⟩ := isP_nI hk.1 e
    have hj6 : j < 6 := by have := hk.1; omega
    obtain ⟨c, hf, hA, hH, hu, h0, -⟩ := wwQ h (by omega)
    rw [if_neg (by simp), if_pos rfl, pN_nI hj6]
    simp only [hf, Option.bind_some, acM hA.1.1, f205N hA hH hj6, f154N hA.1.1]
    exact mQ_gd hu h0
theorem Pdy_Q {τ υ : xM} (h : Upd Pdy τ υ) : Upd PmQ τ υ := h.mono (fun a k hq => by
  unfold PmQ at hq
  rw [Bool.or_eq_false_iff] at hq
  have := List.any_eq_false.mp hq.1 109 (by simp)
  unfold Pdy
  rw [beqF (show a ≠ 109 by simpa using this), Bool.false_or]
  rcases Bool.and_eq_false_iff.mp hq.2 with h2 | h2
  · rw [h2]
    rfl
  · have := List.any_eq_false.mp h2 24 (by simp)
    rw [beqF (show k ≠ 24 by simpa using this), Bool.and_false])
theorem AM_dy {τ : xM} (hu : Upd Pdy σ τ) (h : AM σ c C s) : AM τ c C s := AM_upd hu loDy (fun _ => rfl) h
theorem f195A (hA : AM σ c C s) (hH : mH σ (pe C) s) {set : Nat} (hset : set < 64) (hsub : sub set (lv s)) : ∃ τ, f195 102 (nI set) σ = some τ ∧ Upd Pdy σ τ ∧ (∀ p, p < pe C → mI τ 109 p = nI (hasB s set p)) ∧ mI τ 102 24 = nI (catT s set) :=
  f195N hA.1 hA.2.1.1.2.2.1 hA.2.2.2.1 hA.2.2.2.2 hH hset hsub
theorem m207 (h : QM σ C s) (p : Int32) : mQ σ (f207 102 p σ) (aHop (pe C) s p) := by
  have h1 := QM_upd th_upd h
  obtain ⟨hS1, hk, hv1, hc1⟩ := id h1
  unfold f207 aHop
  simp only [acM h.1, Option.bind_some]
  rw [show wI σ 102 0 0 = th σ from rfl]
  simp only [acM hS1, Option.bind_some, f203Q h1, lvOr_le, f151N hS1]
  by_cases e : lvOr (pe C) s p = 0
  · obtain ⟨j, hj, rfl, hl⟩ := lvOr_0 hk e
    have hj6 : j < 6 := by have := hk.1; omega
    obtain ⟨c, hf, hA, hH, hu, h0, -⟩ := wwQ h (by omega)
    obtain ⟨τ, t1, t2, t3, t4⟩ := f195A hA hH (hto_lt s j) (hto_sub s j)
    have hAτ := AM_dy t2 hA
    rw [if_pos e, if_pos e, pN_nI hj6]
    simp only [hf, Option.bind_some, acM hA.1.1, f205N hA hH hj6, t1, acM hAτ.1.1, hj6, t3 j hj, f154N hAτ.1.1]
    exact mQ_gd (hu.trans (Pdy_Q t2)) ((t2.2.1 102 0 rfl).trans h0)
  · rw [if_neg e, if_neg e]
    exact mQ_gd th_upd th_0
theorem noC (h : QM σ C s) (hp : ¬ 0 < pe C) : gQ (th σ) 102 9 3 = some none := by
  have h1 := QM_upd th_upd h
  rcases h1.2.2.2 with ⟨a, b⟩ | ⟨a, -⟩
  · exact gQ_none h1.1 b
  · omega
theorem isC (h : QM σ C s) (hp : 0 < pe C) : ∃ c, gQ (th σ) 102 9 3 = some (some c) ∧ hasT (th σ) c ∧ mC (th σ) c C ∧ OkC C := by
  have h1 := QM_upd th_upd h
  rcases h1.2.2.2 with ⟨a, b⟩ | ⟨a, b, c, d, e⟩
  · omega
  · exact ⟨c, (acG d).2, d, e, b⟩
theorem m208 (h : QM σ C s) : mQ σ (f208 102 σ) (aCat (pe C) s) := by
  have h1 := QM_upd th_upd h
  obtain ⟨hS1, hk, hv1, hc1⟩ := id h1
  unfold f208 f208_31 aCat
  simp only [acM h.1, Option.bind_some]
  rw [show wI σ 102 0 0 = th σ from rfl]
  by_cases e : 0 < pe C
  · obtain ⟨c, hg, hT, hM, hO⟩ := isC h e
    rw [if_pos e]
    simp only [hg, Option.bind_some, acM hS1, litM, show 43 < 47 by omega, hv1.2.2.2.1, f154N hS1]
    exact mQ_gd th_upd th_0
  · rw [if_neg e]
    simp only [noC h e, Option.bind_some, acM hS1, f151N hS1]
    exact mQ_gd th_upd th_0
theorem m209 (h : QM σ C s) : mQ σ (f209 102 σ) (aRic (pe C) s) := by
  have h1 := QM_upd th_upd h
  obtain ⟨hS1, hk, hv1, hc1⟩ := id h1
  unfold f209 aRic
  simp only [acM h.1, Option.bind_some]
  rw [show wI σ 102 0 0 = th σ from rfl]
  by_cases e : 0 < pe C
  · obtain ⟨c, hg, hT, hM, hO⟩ := isC h e
    have h6 := hk.1
    rw [if_pos e]
    simp only [hg, Option.bind_some]
    have hL : f209_23 1100 102 (-2) 0 (th σ) = some (ob (riF (hs s) (tb (lv s)) 6), gd (th σ) 0) := by
      rw [riF_more (n := pe C) h6 (fun i a b => tb_lt hk.2.1 a)]
      refine lp (fun m j => f209_23 m 102 (ob (riF (hs s) (tb (lv s)) j)) (nI j) (th σ)) (pe C) (fun j hj m r hn => ?_) (fun m => ?_) (pe C) 1100 0 (by omega) (by omega)
      · have hj6 : j < 6 := by omega
        simp only [riF] at hn
        show f209_23 (m + 1) _ _ _ _ = _
        unfold f209_23 f209_69 f209_71
        simp only [acM hS1, acG hT, acT0 hT.2.1, Option.bind_some, hM.1.2.2.1, litM, show 42 < 47 by omega, hv1.2.2.1, f157N hk.lv64 hj6, bo_0, nI_1, show j < 47 by omega, hv1.1 j hj]
        rw [if_neg (nI_ge hj (by omega))]
        cases e1 : tb (lv s) j
        · simpa [e1] using hn
        · rw [if_neg (by simp)]
          have h594 := hk.has hj
          cases e2 : riF (hs s) (tb (lv s)) j with
          | none =>
            rw [if_pos (show ob none = -2 from rfl)]
            simp only [e1, e2, mor] at hn
            simpa [ob] using hn
          | some k =>
            obtain ⟨k1, k2⟩ := (riF_congr (v2 := hs s) (c2 := tb (lv s)) (fun i _ => ⟨rfl, fun _ => rfl⟩)).2 k e2
            have hkn := hk.lvn k2
            have h594k := hk.has hkn
            rw [if_neg (ob_ne (show k < 6 by omega))]
            simp only [ob_some, acM hS1, show k < 47 by omega, Option.bind_some, hv1.1 k hkn, nI_leI (show hs s j < 2 ^ 31 by omega) (show hs s k < 2 ^ 31 by omega)]
            simp only [e1, e2, mor] at hn
            by_cases e3 : hs s j ≤ hs s k
            · have e4 : ¬ hs s k < hs s j := by omega
              rw [if_pos e3]
              simpa [e4, ob] using hn
            · have e4 : hs s k < hs s j := by omega
              rw [if_neg e3]
              simpa [e4, ob] using hn
      · show f209_23 (m + 1) _ _ _ _ = _
        unfold f209_23 f209_77
        simp only [acG hT, acT0 hT.2.1, Option.bind_some, hM.1.2.2.1, acM hS1, f154N hS1]
        rw [if_pos (nI_le (by omega) (by omega))]
    rw [hL]
    exact mQ_gd th_upd th_0
  · rw [if_neg e]
    simp only [noC h e, Option.bind_some, acM hS1, f151N hS1]
    exact mQ_gd th_upd th_0
theorem shlP : ∀ n, n ≤ 6 → (1 : Int32) <<< (nI n &&& 31) = nI (2 ^ n) := by decide +kernel
/-- canDie -/
theorem f210N (hT : hasT σ c) (hM : mC σ c C) (hv : mrow (mI σ 104) (pe C) s) (hk : Ok (pe C) s) (x : Int32) : f210 102 x σ = some (bo (lset s x), σ) := by
  unfold f210 f210_35 f210_36
  simp only [acM hT.1, acG hT, acT0 hT.2.1, Option.bind_some, hM.1.2.2.1, litM, show 42 < 47 by omega, hv.2.2.1, rZ0, rZ1, shlP _ hk.1]
  have h2n : 2 ^ pe C < 2 ^ 31 := Nat.pow_lt_pow_right (by decide) (by have := hk.1; omega)
  by_cases e : x &&& (nI (lv s) ^^^ (-1)) = 0
  · have e1 : lset s x = true := decide_eq_true e
    obtain ⟨t, ht, rfl, hsub⟩ := lset_of hk.lv64 e1
    have : t < 2 ^ pe C := Nat.lt_of_le_of_lt (sub_le hsub) hk.2.1
    rw [if_neg (nI_pos (by omega)), if_neg (nI_ge this h2n), if_pos e, e1]
  · have e1 : lset s x = false := decide_eq_false e
    rw [e1]
    split
    · rfl
    · split
      · rfl
      · rfl
theorem m211 (h : QM σ C s) (p x : Int32) : mQ σ (f211 102 p x σ) (aGo (pe C) s p x) := by
  have h1 := QM_upd th_upd h
  obtain ⟨hS1, hk, hv1, hc1⟩ := id h1
  unfold f211 f211_35 aGo
  simp only [acM h.1, Option.bind_some]
  rw [show wI σ 102 0 0 = th σ from rfl]
  simp only [acM hS1, Option.bind_some, f186Q h1, bo_0]
  cases e : isP (pe C) p
  · simpa [f151N hS1] using mQ_gd th_upd th_0
  · obtain ⟨j, hj, rfl⟩ := isP_nI hk.1 e
    have hj6 : j < 6 := by have := hk.1; omega
    obtain ⟨c, hg, hT, hM, hO⟩ := isC h (show 0 < pe C by omega)
    rw [if_neg (by simp), if_pos rfl, f210N hT hM hv1 hk]
    simp only [Option.bind_some, bo_0]
    cases e2 : lset s x
    · simpa [acM hS1, f151N hS1] using mQ_gd th_upd th_0
    · obtain ⟨t, ht, rfl, hsub⟩ := lset_of hk.lv64 e2
      rw [if_neg (by simp), pN_nI hj6, pN_64 ht, f157N ht hj6]
      simp only [Option.bind_some, bo_0]
      cases e3 : tb t j
      · simpa [acM hS1, f151N hS1] using mQ_gd th_upd th_0
      · obtain ⟨c, hf, hA, hH, hu, h0, -⟩ := wwQ h (show 0 < pe C by omega)
        rw [if_neg (by simp)]
        simp only [acM hS1, hf, Option.bind_some, acM hA.1.1, f194N hA.1.1 hH hk ht hsub e3, f154N hA.1.1]
        exact mQ_gd hu h0
theorem m212 (h : QM σ C s) (p x : Int32) : mQ σ (f212 102 p x σ) (aHt (pe C) s p x) := by
  have h1 := QM_upd th_upd h
  obtain ⟨hS1, hk, hv1, hc1⟩ := id h1
  unfold f212 aHt
  simp only [acM h.1, Option.bind_some]
  rw [show wI σ 102 0 0 = th σ from rfl]
  simp only [acM hS1, Option.bind_some, f203Q h1, lvOr_le, f151N hS1]
  by_cases e : lvOr (pe C) s p = 0
  · obtain ⟨j, hj, rfl, hl⟩ := lvOr_0 hk e
    have hj6 : j < 6 := by have := hk.1; omega
    obtain ⟨c, hg, hT, hM, hO⟩ := isC h (show 0 < pe C by omega)
    rw [if_pos e, if_pos e, f210N hT hM hv1 hk]
    simp only [Option.bind_some, bo_0]
    cases e2 : lset s x
    · simpa [acM hS1, f151N hS1] using mQ_gd th_upd th_0
    · obtain ⟨t, ht, rfl, hsub⟩ := lset_of hk.lv64 e2
      obtain ⟨c, hf, hA, hH, hu, h0, -⟩ := wwQ h (show 0 < pe C by omega)
      obtain ⟨τ, t1, t2, t3, t4⟩ := f195A hA hH ht hsub
      have hAτ := AM_dy t2 hA
      rw [if_neg (by simp), if_pos rfl, pN_nI hj6, pN_64 ht]
      simp only [acM hS1, hf, Option.bind_some, acM hA.1.1, t1, acM hAτ.1.1, hj6, t3 j hj, f154N hAτ.1.1]
      exact mQ_gd (hu.trans (Pdy_Q t2)) ((t2.2.1 102 0 rfl).trans h0)
  · rw [if_neg e, if_neg e]
    exact mQ_gd th_upd th_0
theorem m213 (h : QM σ C s) (x : Int32) : mQ σ (f213 102 x σ) (aCt (pe C) s x) := by
  have h1 := QM_upd th_upd h
  obtain ⟨hS1, hk, hv1, hc1⟩ := id h1
  unfold f213 aCt
  simp only [acM h.1, Option.bind_some]
  rw [show wI σ 102 0 0 = th σ from rfl]
  by_cases e : 0 < pe C
  · obtain ⟨c, hg, hT, hM, hO⟩ := isC h e
    rw [if_pos e]
    simp only [hg, Option.bind_some, acM hS1, f210N hT hM hv1 hk, bo_0]
    cases e2 : lset s x
    · simpa [acM hS1, f151N hS1] using mQ_gd th_upd th_0
    · obtain ⟨t, ht, rfl, hsub⟩ := lset_of hk.lv64 e2
      obtain ⟨c, hf, hA, hH, hu, h0, -⟩ := wwQ h e
      obtain ⟨τ, t1, t2, t3, t4⟩ := f195A hA hH ht hsub
      have hAτ := AM_dy t2 hA
      rw [if_neg (by simp), if_pos rfl, pN_64 ht]
      simp only [acM hS1, hf, Option.bind_some, acM hA.1.1, t1, acM hAτ.1.1, t4, f154N hAτ.1.1]
      exact mQ_gd (hu.trans (Pdy_Q t2)) ((t2.2.1 102 0 rfl).trans h0)
  · rw [if_neg e]
    simp only [noC h e, Option.bind_some, acM hS1, f151N hS1]
    exact mQ_gd th_upd th_0
end REF
