/-! THE REFERENCE'S ANSWERS: mean, odds, passes, catMean -/
section REF
variable {σ : xM} {c n : Nat} {s : Sta} {C : Cty}
theorem wh_le (s : Sta) : whN s ≤ 1000000000000 ∧ 0 < whN s := by
  unfold whN
  constructor
  · refine Nat.le_trans (pr_le (g := fun _ => 100) (fun i _ => ?_)) (by decide)
    split <;> omega
  · exact pr_pos (fun i _ => by split <;> omega)
theorem re_pos (s : Sta) : 0 < reN s := by
  unfold reN
  exact pr_pos (fun i _ => by split <;> omega)
theorem ms_le (hO : OkC C) (hk : Ok (pe C) s) {p : Nat} (hp : tb (lv s) p = true) : msN C s p ≤ 594 * 1000000000000 := by
  have h1 := me_le hO hk p
  rw [← me_ms hO hk hp] at h1
  exact Nat.le_trans (Nat.le_mul_of_pos_right _ (re_pos s)) h1
theorem P105_Q {τ : xM} (h : Upd P105 σ τ) : Upd PmQ σ τ := h.mono (fun a k hq => by
  unfold PmQ at hq
  rw [Bool.or_eq_false_iff] at hq
  have := List.any_eq_false.mp hq.1 105 (by simp)
  exact beqF (by simpa using this))
theorem m220 (h : QM σ C s) (p b : Int32) : mQ σ (f220 102 p b σ) (aMea C s p b) := by
  have h1 := QM_upd th_upd h
  obtain ⟨hS1, hk, hv1, hc1⟩ := id h1
  unfold f220 f220_41 f220_55 aMea
  simp only [acM h.1, Option.bind_some]
  rw [show wI σ 102 0 0 = th σ from rfl]
  simp only [acM hS1, Option.bind_some, f186Q h1, bo_0]
  cases e : isP (pe C) p
  · rw [if_pos rfl, if_neg (by simp), f151N hS1]
    exact mQ_gd th_upd th_0
  · obtain ⟨j, hj, rfl⟩ := isP_nI hk.1 e
    have hj6 : j < 6 := by have := hk.1; omega
    obtain ⟨c, hg, hT, hM, hO⟩ := isC h (show 0 < pe C by omega)
    have hA := wk_AM hT hM hO hv1 hk
    have hu : Upd PmQ σ (wk (th σ)) := th_upd.trans (P105_Q wk_upd)
    have h0 : mI (wk (th σ)) 102 0 = 0 := by rw [wk_upd.2.1 102 0 rfl]; exact th_0
    rw [if_neg (by simp), if_pos rfl, pN_nI hj6]
    simp only [f188N hS1, Option.bind_some, acM hA.1.1, f190N hA.1.1 hA.2.2.2.1 hk hj6, bo_0]
    cases el : tb (lv s) j
    · rw [if_pos rfl]
      simp only [f190N hA.1.1 hA.2.2.2.1 hk hj6, el, Option.bind_some, bo_0, acM hA.1.1]
      rw [if_pos trivial]
      have hA2 := AM_wJ (k := 25) (x := 1) hA
      have hf := f160N (σ := wJ (wk (th σ)) 102 25 1) hA2.1.1 (m := 0) (w := 1) (by decide) (by decide) (by decide) b
      simp only [acM hA2.1.1, Option.bind_some, mJ_wJ, and_self, if_true]
      rw [show f160 102 0 1 b (wJ (wk (th σ)) 102 25 1) = _ from hf, me_dead el, fra_0 (w := 1000000000000) (by decide)]
      exact mQ_gd (hu.wJ rfl) (by rw [mI_wJ]; exact h0)
    · obtain ⟨τ, t1, t2, t3⟩ := f219N hA hj
      have hAτ := AM_upd t2 loMe (fun _ => rfl) hA
      rw [if_neg (by simp)]
      simp only [t1, Option.bind_some, acM hAτ.1.1, f190N hAτ.1.1 hAτ.2.2.2.1 hk hj6, el, bo_0, t3]
      rw [if_neg (by simp), f160N hAτ.1.1 (Nat.lt_of_le_of_lt (ms_le hO hk el) (by decide)) (Nat.lt_of_le_of_lt (wh_le s).1 (by decide)) (wh_le s).2, ← fra_sure, me_ms hO hk el]
      exact mQ_gd (hu.trans (me_Q t2)) ((t2.2.1 102 0 rfl).trans h0)
/-- works, heirs, the whole -/
theorem wwhQ (h : QM σ C s) (hp : 0 < pe C) : ∃ c τ, f218 102 (ww (th σ) (pe C) s) = some τ ∧ AM τ c C s ∧ mH τ (pe C) s ∧ Upd PmQ σ τ ∧ mI τ 102 0 = 0 ∧ mJ τ 102 25 = lN (whN s) ∧ mrow (mI τ 104) (pe C) s := by
  obtain ⟨c, hf, hA, hH, hu, h0, hv⟩ := wwQ h hp
  obtain ⟨τ, t1, t2, t3⟩ := f218N hA
  exact ⟨c, τ, t1, AM_upd t2 lo25 (fun _ => rfl) hA, mH_upd t2 (fun _ => rfl) hH, hu.trans (me_Q (me_25 t2)), (t2.2.1 102 0 rfl).trans h0, t3, row_upd t2 (fun _ => rfl) hv⟩
theorem f156N (x : Int32) {lo_ hi : Int32} (σ : xM) : f156 x lo_ hi σ = some (bo (!decide (x < lo_ ∨ hi < x)), σ) := by
  unfold f156 f156_15 f156_14
  by_cases e1 : x < lo_
  · rw [if_pos e1, decide_eq_true (Or.inl e1)]
    rfl
  · rw [if_neg e1]
    by_cases e2 : hi < x
    · rw [if_pos e2, decide_eq_true (Or.inr e2)]
      rfl
    · rw [if_neg e2, decide_eq_false (fun h => h.elim e1 e2)]
      rfl
theorem os_le (hO : OkC C) (hk : Ok (pe C) s) {p much : Nat} : osN C s p much ≤ 64 * 1000000000000 := by
  unfold osN
  refine Nat.le_trans (sm_le (g := fun _ => 1000000000000) (fun t ht => ?_)) (by decide)
  split
  · split
    · exact pa_le hO hk t
    · omega
  · omega
theorem os_odd (hO : OkC C) (hk : Ok (pe C) s) {p much : Nat} (hp : p < pe C) (b : Int32) : fra (osN C s p much) (whN s) b = fra (oddN C s p much) 1000000000000 b := by
  unfold oddN
  by_cases e : much = 0
  · rw [if_pos e, e, ← fra_sure, os_0 hO hk]
  · rw [if_neg e]
    cases el : tb (lv s) p
    · rw [if_neg (by simp), os_dead hk hp el e, fra_0 (wh_le s).2, fra_0 (w := 1000000000000) (by decide)]
    · rw [if_pos rfl, ← fra_sure, od_os hO hk e]
theorem m221 (h : QM σ C s) (p x b : Int32) : mQ σ (f221 102 p x b σ) (aOdd C s p x b) := by
  have h1 := QM_upd th_upd h
  obtain ⟨hS1, hk, hv1, hc1⟩ := id h1
  unfold f221 aOdd
  simp only [acM h.1, Option.bind_some]
  rw [show wI σ 102 0 0 = th σ from rfl]
  simp only [acM hS1, Option.bind_some, f186Q h1, bo_0, f156N]
  cases e : isP (pe C) p
  · rw [if_pos rfl, if_neg (by simp), f151N hS1]
    exact mQ_gd th_upd th_0
  · obtain ⟨j, hj, rfl⟩ := isP_nI hk.1 e
    have hj6 : j < 6 := by have := hk.1; omega
    rw [if_neg (by simp), if_pos rfl]
    by_cases ex : x < 0 ∨ 594 < x
    · rw [if_pos (by simp [ex]), if_pos ex, f151N hS1]
      exact mQ_gd th_upd th_0
    · rw [if_neg (by simp [ex]), if_neg ex]
      obtain ⟨m, hm, rfl⟩ := nI_of2 (M := 594) (n := 594) rfl (fun h => ex (Or.inl h)) (Int32.not_lt.mp (fun h => ex (Or.inr h)))
      obtain ⟨c, hf, -⟩ := wwQ h (show 0 < pe C by omega)
      obtain ⟨c, τ, t1, hA, hH, hu, h0, hw, -⟩ := wwhQ h (show 0 < pe C by omega)
      have hS2 : Sh (ww (th σ) (pe C) s) := ww_upd.sh hS1
      have hO := hA.2.2.1
      have h64 := hk.lv64
      rw [pN_nI hj6, show pN (nI m) = m from nI_clamp (by omega), ← os_odd hO hk hj]
      simp only [hf, acM hS2, Option.bind_some, t1]
      have e0 : osN C s j m = sm (fun t => if lset s (nI t) then (if m ≤ hasB s t j then paN C s t else 0) else 0) (lv s + 1) := sm_lv hk (fun t _ h => by rw [h]; rfl)
      have hL : ∃ υ, f221_52 1100 102 (nI j) (nI m) b 0 0 τ = some (lN (fra (osN C s j m) (whN s) b), gd υ 0) ∧ Upd Pdy τ υ := by
        refine lpI (fun k t υ => f221_52 k 102 (nI j) (nI m) b (lN (sm (fun t => if lset s (nI t) then (if m ≤ hasB s t j then paN C s t else 0) else 0) t)) (nI t) υ) (lv s + 1) (fun _ υ => Upd Pdy τ υ) (fun o => ∃ υ, o = some (lN (fra (osN C s j m) (whN s) b), gd υ 0) ∧ Upd Pdy τ υ) (fun t ht k υ hI => ?_) (fun k υ hI => ?_) (lv s + 1) 1100 0 _ (by omega) (by omega) Upd.refl
        · have hA' := AM_dy hI hA
          obtain ⟨hT', hM', -, hx', -⟩ := id hA'
          have ht64 : t < 64 := by omega
          show ∃ τ', Upd Pdy τ τ' ∧ f221_52 (k + 1) _ _ _ _ _ _ _ = f221_52 k _ _ _ _ _ _ _
          have hc0 : ¬ nI (lv s) < nI t := nI_nlt (by omega) (by omega)
          by_cases e1 : nI t &&& (nI (lv s) ^^^ (-1)) = 0
          · have el : lset s (nI t) = true := decide_eq_true e1
            have hsub := (lset_nI h64 ht64).mp el
            obtain ⟨ω, t1, t2, t3, t4⟩ := f195A hA' (mH_upd hI (fun _ => rfl) hH) ht64 hsub
            have hAω := AM_dy t2 hA'
            have hB := hasB_le (p := j) hk hj hsub
            refine ⟨ω, hI.trans t2, ?_⟩
            rw [f221_52]
            unfold f221_110 f221_113
            simp only [acM hT'.1, Option.bind_some, litM, show 42 < 47 by omega, hx'.2.2.1, nI_1, t1, acM hAω.1.1, hj6, t3 j hj, nI_ltI (show hasB s t j < 2 ^ 31 by omega) (show m < 2 ^ 31 by omega), f217N hAω ht64, lN_add, show (0 : Int64) = lN 0 from rfl]
            rw [if_neg hc0, if_pos e1, sm]
            simp only [el, if_true]
            by_cases e3 : hasB s t j < m
            · have : ¬ m ≤ hasB s t j := by omega
              rw [if_pos e3, if_neg this]
            · have : m ≤ hasB s t j := by omega
              rw [if_neg e3, if_pos this]
          · have el : lset s (nI t) = false := decide_eq_false e1
            refine ⟨υ, hI, ?_⟩
            rw [f221_52]
            unfold f221_113
            simp only [acM hT'.1, Option.bind_some, litM, show 42 < 47 by omega, hx'.2.2.1, nI_1]
            rw [if_neg hc0, if_neg e1, sm]
            simp [el]
        · have hA' := AM_dy hI hA
          obtain ⟨hT', hM', -, hx', -⟩ := id hA'
          refine ⟨υ, ?_, hI⟩
          show f221_52 (k + 1) _ _ _ _ _ _ _ = _
          unfold f221_52 f221_119
          simp only [acM hT'.1, Option.bind_some, litM, show 42 < 47 by omega, hx'.2.2.1, (hI.2.2 102 25 rfl).trans hw]
          rw [if_pos (nI_lt (by omega) (by omega)), ← e0, f160N hT'.1 (Nat.lt_of_le_of_lt (os_le hO hk) (by decide)) (Nat.lt_of_le_of_lt (wh_le s).1 (by decide)) (wh_le s).2]
          rfl
      obtain ⟨υ, u1, u2⟩ := hL
      rw [u1]
      exact mQ_gd (hu.trans (Pdy_Q u2)) ((u2.2.1 102 0 rfl).trans h0)
theorem ps_le (hO : OkC C) (hk : Ok (pe C) s) {p q : Nat} : psN C s p q ≤ 64 * 1000000000000 := by
  unfold psN
  refine Nat.le_trans (sm_le (g := fun _ => 1000000000000) (fun t ht => ?_)) (by decide)
  split
  · exact pa_le hO hk t
  · omega
theorem ps_pas (hO : OkC C) (hk : Ok (pe C) s) {p q : Nat} (hp : p < 6) (hpq : p ≠ q) (b : Int32) : fra (psN C s p q) (whN s) b = fra (pasN C s p q) 1000000000000 b := by
  rw [← fra_sure, ps_lik hO hk hp hpq]
  congr 1
  unfold pasN
  cases el : tb (lv s) p
  · rw [show bwN s p q = none by
      unfold bwN btF
      rw [if_neg hpq, show hN s p = none by unfold hN; rw [el]; rfl]
      rfl]
    rfl
  · rfl
theorem m222 (h : QM σ C s) (p q b : Int32) : mQ σ (f222 102 p q b σ) (aPas C s p q b) := by
  have h1 := QM_upd th_upd h
  obtain ⟨hS1, hk, hv1, hc1⟩ := id h1
  unfold f222 aPas
  simp only [acM h.1, Option.bind_some]
  rw [show wI σ 102 0 0 = th σ from rfl]
  simp only [acM hS1, Option.bind_some, f187Q h1, bo_0]
  cases e : two (pe C) p q
  · rw [if_pos rfl, if_neg (by simp), f151N hS1]
    exact mQ_gd th_upd th_0
  · obtain ⟨i, j, hi, hj, rfl, rfl, hij⟩ := two_of hk.1 e
    have h6 := hk.1
    have hi6 : i < 6 := by omega
    have hj6 : j < 6 := by omega
    obtain ⟨c, hf, -⟩ := wwQ h (show 0 < pe C by omega)
    obtain ⟨c, τ, t1, hA, hH, hu, h0, hw, -⟩ := wwhQ h (show 0 < pe C by omega)
    have hS2 : Sh (ww (th σ) (pe C) s) := ww_upd.sh hS1
    obtain ⟨hT', hM', hO, hx', -⟩ := id hA
    have h64 := hk.lv64
    rw [if_neg (by simp), if_pos rfl, pN_nI hi6, pN_nI hj6, ← ps_pas hO hk hi6 hij]
    simp only [hf, acM hS2, Option.bind_some, t1]
    have e0 : psN C s i j = sm (fun t => if lset s (nI t) && (tb t i && decide (enN s t i = some j)) then paN C s t else 0) (lv s + 1) := sm_lv hk (fun t _ h => by rw [h]; rfl)
    have hL : f222_35 1100 102 (nI i) (nI j) b 0 0 τ = some (lN (fra (psN C s i j) (whN s) b), gd τ 0) := by
      refine lp (fun k t => f222_35 k 102 (nI i) (nI j) b (lN (sm (fun t => if lset s (nI t) && (tb t i && decide (enN s t i = some j)) then paN C s t else 0) t)) (nI t) τ) (lv s + 1) (fun t ht k r hn => ?_) (fun k => ?_) (lv s + 1) 1100 0 (by omega) (by omega)
      · have ht64 : t < 64 := by omega
        simp only [sm] at hn
        show f222_35 (k + 1) _ _ _ _ _ _ _ = _
        have hc0 : ¬ nI (lv s) < nI t := nI_nlt (by omega) (by omega)
        unfold f222_35 f222_93
        simp only [acM hT'.1, Option.bind_some, litM, show 42 < 47 by omega, hx'.2.2.1, f157N ht64 hi6, bo_0, nI_1]
        rw [if_neg hc0]
        by_cases e1 : nI t &&& (nI (lv s) ^^^ (-1)) = 0
        · have el : lset s (nI t) = true := decide_eq_true e1
          have hsub := (lset_nI h64 ht64).mp el
          rw [if_pos e1]
          cases e2 : tb t i
          · rw [if_pos rfl]
            simpa [el, e2] using hn
          · have he : (ob (enN s t i) = nI j) = (enN s t i = some j) := propext (ob_eq (b := some j) (fun k e => enN_6 e) (fun k e => by cases e; exact hj6))
            rw [if_neg (by simp), f194N hT'.1 hH hk ht64 hsub e2]
            simp only [Option.bind_some, he, acM hT'.1, f217N hA ht64, lN_add]
            by_cases e3 : enN s t i = some j
            · rw [if_pos e3]
              simpa [el, e2, e3] using hn
            · rw [if_neg e3]
              simpa [el, e2, e3] using hn
        · have el : lset s (nI t) = false := decide_eq_false e1
          rw [if_neg e1]
          simpa [el] using hn
      · show f222_35 (k + 1) _ _ _ _ _ _ _ = _
        unfold f222_35 f222_99
        simp only [acM hT'.1, Option.bind_some, litM, show 42 < 47 by omega, hx'.2.2.1, hw]
        rw [if_pos (nI_lt (by omega) (by omega)), ← e0, f160N hT'.1 (Nat.lt_of_le_of_lt (ps_le hO hk) (by decide)) (Nat.lt_of_le_of_lt (wh_le s).1 (by decide)) (wh_le s).2]
        rfl
    rw [hL]
    exact mQ_gd hu h0
theorem cat_le (hk : Ok n s) {t : Nat} (hsub : sub t (lv s)) : catT s t ≤ 594 := by
  have h6 := hk.1
  have e1 : catT s t ≤ sm (fun q => if decide (q < n) then hs s q else 0) 6 := by
    unfold catT
    refine sm_le (fun q hq => ?_)
    split
    · rename_i hc
      rw [Bool.and_eq_true] at hc
      rw [if_pos (decide_eq_true (hk.lvn (hsub q hc.1)))]
      exact Nat.le_refl _
    · exact Nat.zero_le _
  have e2 : sm (fun q => if decide (q < n) then hs s q else 0) 6 = sm (hs s) n := by
    rw [sm_more (a := n) h6 (fun i h1 _ => by rw [if_neg (by simp; omega)])]
    exact sm_congr (fun i hi => by rw [if_pos (decide_eq_true hi)])
  have := hk.2.2.2.1
  omega
theorem cmN_le (hO : OkC C) (hk : Ok (pe C) s) : cmN C s ≤ 594 * 1000000000000 := by
  have h1 := cm_le hO hk
  rw [← cm_cq hO hk] at h1
  exact Nat.le_trans (Nat.le_mul_of_pos_right _ (re_pos s)) h1
theorem m223 (h : QM σ C s) (b : Int32) : mQ σ (f223 102 b σ) (aCme C s b) := by
  have h1 := QM_upd th_upd h
  obtain ⟨hS1, hk, hv1, hc1⟩ := id h1
  unfold f223 aCme
  simp only [acM h.1, Option.bind_some]
  rw [show wI σ 102 0 0 = th σ from rfl]
  by_cases e : 0 < pe C
  · obtain ⟨c, hg, -⟩ := isC h e
    obtain ⟨c, hf, -⟩ := wwQ h e
    obtain ⟨c, τ, t1, hA, hH, hu, h0, hw, -⟩ := wwhQ h e
    have hS2 : Sh (ww (th σ) (pe C) s) := ww_upd.sh hS1
    have hO := hA.2.2.1
    have h64 := hk.lv64
    rw [if_pos e, ← cm_cq hO hk, fra_sure]
    simp only [hg, acM hS1, hf, acM hS2, Option.bind_some, t1]
    have e0 : cmN C s = sm (fun t => if lset s (nI t) then paN C s t * catT s t else 0) (lv s + 1) := sm_lv hk (fun t _ h => by rw [h]; rfl)
    have hL : ∃ υ, f223_32 1100 102 b 0 0 τ = some (lN (fra (cmN C s) (whN s) b), gd υ 0) ∧ Upd Pdy τ υ := by
      refine lpI (fun k t υ => f223_32 k 102 b (lN (sm (fun t => if lset s (nI t) then paN C s t * catT s t else 0) t)) (nI t) υ) (lv s + 1) (fun _ υ => Upd Pdy τ υ) (fun o => ∃ υ, o = some (lN (fra (cmN C s) (whN s) b), gd υ 0) ∧ Upd Pdy τ υ) (fun t ht k υ hI => ?_) (fun k υ hI => ?_) (lv s + 1) 1100 0 _ (by omega) (by omega) Upd.refl
      · have hA' := AM_dy hI hA
        obtain ⟨hT', hM', -, hx', -⟩ := id hA'
        have ht64 : t < 64 := by omega
        show ∃ τ', Upd Pdy τ τ' ∧ f223_32 (k + 1) _ _ _ _ _ = f223_32 k _ _ _ _ _
        have hc0 : ¬ nI (lv s) < nI t := nI_nlt (by omega) (by omega)
        by_cases e1 : nI t &&& (nI (lv s) ^^^ (-1)) = 0
        · have el : lset s (nI t) = true := decide_eq_true e1
          have hsub := (lset_nI h64 ht64).mp el
          obtain ⟨ω, t1, t2, t3, t4⟩ := f195A hA' (mH_upd hI (fun _ => rfl) hH) ht64 hsub
          have hAω := AM_dy t2 hA'
          have hB := cat_le (n := pe C) hk hsub
          refine ⟨ω, hI.trans t2, ?_⟩
          rw [f223_32]
          unfold f223_83
          simp only [acM hT'.1, Option.bind_some, litM, show 42 < 47 by omega, hx'.2.2.1, nI_1, t1, acM hAω.1.1, t4, f217N hAω ht64, nI_l (show catT s t < 2 ^ 31 by omega), lN_mul, lN_add]
          rw [if_neg hc0, if_pos e1, sm]
          simp [el]
        · have el : lset s (nI t) = false := decide_eq_false e1
          refine ⟨υ, hI, ?_⟩
          rw [f223_32]
          unfold f223_83
          simp only [acM hT'.1, Option.bind_some, litM, show 42 < 47 by omega, hx'.2.2.1, nI_1]
          rw [if_neg hc0, if_neg e1, sm]
          simp [el]
      · have hA' := AM_dy hI hA
        obtain ⟨hT', hM', -, hx', -⟩ := id hA'
        refine ⟨υ, ?_, hI⟩
        show f223_32 (k + 1) _ _ _ _ _ = _
        unfold f223_32 f223_89
        simp only [acM hT'.1, Option.bind_some, litM, show 42 < 47 by omega, hx'.2.2.1, (hI.2.2 102 25 rfl).trans hw]
        rw [if_pos (nI_lt (by omega) (by omega)), ← e0, f160N hT'.1 (Nat.lt_of_le_of_lt (cmN_le hO hk) (by decide)) (Nat.lt_of_le_of_lt (wh_le s).1 (by decide)) (wh_le s).2]
        rfl
    obtain ⟨υ, u1, u2⟩ := hL
    rw [u1]
    exact mQ_gd (hu.trans (Pdy_Q u2)) ((u2.2.1 102 0 rfl).trans h0)
  · rw [if_neg e]
    simp only [noC h e, Option.bind_some, acM hS1, f151N hS1]
    exact mQ_gd th_upd th_0
end REF
