/-! THE REFERENCE'S ANSWERS: rounds, worthiest, plot -/
section REF
variable {σ : xM} {c n : Nat} {s : Sta} {C : Cty}
/-- the chain of a round, so many steps at most -/
def rdM (h : Nat → Option Nat) (p : Nat) : Nat → Option Nat → Option Nat
  | 0, a => a
  | _ + 1, none => none
  | k + 1, some a => if a = p then some a else rdM h p k (h a)
theorem rdM_eq {h : Nat → Option Nat} {p : Nat} : ∀ k a, decide (rdM h p k a = some p) = rdF h p (k + 1) a := by
  intro k
  induction k with
  | zero =>
    intro a
    cases a with
    | none => simp [rdM, rdF]
    | some a =>
      unfold rdM rdF
      by_cases e : a = p <;> simp [e, rdF]
  | succ k ih =>
    intro a
    cases a with
    | none => simp [rdM, rdF]
    | some a =>
      unfold rdM rdF
      by_cases e : a = p
      · simp [e]
      · rw [if_neg e, if_neg e]
        exact ih (h a)
theorem rdM_6 {p : Nat} (hp : p < 6) : decide (rdM (hN s) p 6 (hN s p) = some p) = rdF (hN s) p 6 (hN s p) := by
  rw [rdM_eq]
  cases e : hN s p with
  | none => rfl
  | some a => exact rdF_more hp (hN_6 s) 6 0 a (hN_6 s p a e) (by omega) (tb_0 p) (fun x hx => by rw [tb_0] at hx; cases hx) (by omega)
theorem hei_N {s : Sta} {p : Nat} (h : tb (lv s) p = true) : hei s p = hN s p := by unfold hN; rw [if_pos h]
theorem f214_58N (hS : Sh σ) (hH : mH σ n s) (hk : Ok n s) {K : Nat → Int32 → Int32 → xM → Option (Int32 × xM)} {acc p : Nat} (hp : p < 6) : ∀ (k m : Nat) (a : Option Nat), k ≤ 6 → k + 1 ≤ m → (∀ x, a = some x → x < 6 ∧ tb (lv s) x = true) → f214_58 K m 102 (nI acc) (nI p) (ob a) (nI (6 - k)) σ = f214_89 K 102 (nI acc) (nI p) (ob (rdM (hN s) p k a)) σ := by
  intro k
  induction k with
  | zero =>
    intro m a _ hm _
    obtain ⟨m, rfl⟩ : ∃ k, m = k + 1 := ⟨m - 1, by omega⟩
    unfold f214_58
    rw [if_pos (show (6 : Int32) ≤ nI (6 - 0) by decide)]
    rfl
  | succ k ih =>
    intro m a hk6 hm ha
    obtain ⟨m, rfl⟩ : ∃ k, m = k + 1 := ⟨m - 1, by omega⟩
    have hnext : nI (6 - (k + 1)) + 1 = nI (6 - k) := by rw [nI_1]; congr 1; omega
    unfold f214_58
    rw [if_neg (show ¬ (6 : Int32) ≤ nI (6 - (k + 1)) from nI_ge (b := 6) (by omega) (by omega))]
    cases a with
    | none => rfl
    | some a =>
      obtain ⟨a6, al⟩ := ha a rfl
      rw [if_neg (ob_ne a6)]
      simp only [ob_some, nI_eq (show a < 2 ^ 31 by omega) (show p < 2 ^ 31 by omega), acM hS, Option.bind_some, a6, hH a (hk.lvn al), hnext, hei_N al, rdM]
      by_cases e : a = p
      · rw [if_pos e, if_pos e]
        rfl
      · rw [if_neg e, if_neg e]
        exact ih m _ (by omega) (by omega) (fun x hx => ⟨(hN_ok hx).1, (hN_ok hx).2.2⟩)
theorem m214 (h : QM σ C s) : mQ σ (f214 102 σ) (aRou (pe C) s) := by
  have h1 := QM_upd th_upd h
  obtain ⟨hS1, hk, hv1, hc1⟩ := id h1
  unfold f214 aRou
  simp only [acM h.1, Option.bind_some]
  rw [show wI σ 102 0 0 = th σ from rfl]
  by_cases e : 0 < pe C
  · obtain ⟨c, hg, hT, hM, hO⟩ := isC h e
    obtain ⟨c, hf, hA, hH, hu, h0, -⟩ := wwQ h e
    have h6 := hk.1
    rw [if_pos e]
    simp only [hg, Option.bind_some, acM hS1, hf]
    generalize ww (th σ) (pe C) s = τ at hf hA hH hu h0
    obtain ⟨hT, hM, -, hx, -⟩ := id hA
    have hL : f214_26 1100 102 0 0 τ = some (nI (rouN s), gd τ 0) := by
      unfold rouN
      rw [col_more (n := pe C) h6 (fun i a b => by rw [tb_lt hk.2.1 a]; rfl)]
      refine lp (fun m j => f214_26 m 102 (nI (col (fun p => tb (lv s) p && rdF (hN s) p 6 (hN s p)) j)) (nI j) τ) (pe C) (fun j hj m r hn => ?_) (fun m => ?_) (pe C) 1100 0 (by omega) (by omega)
      · have hj6 : j < 6 := by omega
        simp only [col] at hn
        show f214_26 (m + 1) _ _ _ _ = _
        unfold f214_26
        simp only [acM hT.1, acG hT, acT0 hT.2.1, Option.bind_some, hM.1.2.2.1, f190N hT.1 hx hk hj6, bo_0, hj6, hH j hj]
        rw [if_neg (nI_ge hj (by omega))]
        cases e1 : tb (lv s) j
        · simpa [e1, f214_104, nI_1] using hn
        · have hl := f214_58N (K := f214_26 m) (acc := col (fun p => tb (lv s) p && rdF (hN s) p 6 (hN s p)) j) hT.1 hH hk hj6 6 1100 (hN s j) (by omega) (by omega) (fun x hx => ⟨(hN_ok hx).1, (hN_ok hx).2.2⟩)
          rw [if_neg (by simp), hei_N e1]
          refine (show f214_58 (f214_26 m) 1100 102 _ _ _ 0 τ = _ from hl).trans ?_
          have hr := rdM_6 (s := s) hj6
          have h6r : ∀ k a, (∀ x, a = some x → x < 6) → ∀ x, rdM (hN s) j k a = some x → x < 6 := by
            intro k
            induction k with
            | zero => intro a ha x hx; exact ha x hx
            | succ k ih =>
              intro a ha x hx
              cases a with
              | none => cases hx
              | some a =>
                unfold rdM at hx
                split at hx
                · cases hx
                  exact ha _ rfl
                · exact ih _ (hN_6 s a) x hx
          have he : (ob (rdM (hN s) j 6 (hN s j)) = nI j) = (rdM (hN s) j 6 (hN s j) = some j) := propext (ob_eq (b := some j) (h6r 6 _ (hN_6 s j)) (fun k e => by cases e; exact hj6))
          unfold f214_89 f214_102 f214_104
          simp only [he, nI_1, or0]
          by_cases e2 : rdM (hN s) j 6 (hN s j) = some j
          · rw [if_pos e2, orN _ (col_lt _ j (show j ≤ 6 by omega)) j hj6]
            rw [decide_eq_true e2] at hr
            simpa [e1, ← hr] using hn
          · rw [if_neg e2]
            rw [decide_eq_false e2] at hr
            simpa [e1, ← hr] using hn
      · show f214_26 (m + 1) _ _ _ _ = _
        unfold f214_26 f214_110
        simp only [acG hT, acT0 hT.2.1, Option.bind_some, hM.1.2.2.1, acM hT.1, f154N hT.1]
        rw [if_pos (nI_le (by omega) (by omega))]
    rw [hL]
    exact mQ_gd hu h0
  · rw [if_neg e]
    simp only [noC h e, Option.bind_some, acM hS1, f151N hS1]
    exact mQ_gd th_upd th_0
theorem m215 (h : QM σ C s) : mQ σ (f215 102 σ) (aWor (pe C) s) := by
  have h1 := QM_upd th_upd h
  obtain ⟨hS1, hk, hv1, hc1⟩ := id h1
  unfold f215 aWor
  simp only [acM h.1, Option.bind_some]
  rw [show wI σ 102 0 0 = th σ from rfl]
  by_cases e : 0 < pe C
  · obtain ⟨c, hg, hT, hM, hO⟩ := isC h e
    obtain ⟨c, hf, hA, hH, hu, h0, -⟩ := wwQ h e
    have h6 := hk.1
    rw [if_pos e]
    simp only [hg, Option.bind_some, acM hS1, hf]
    generalize ww (th σ) (pe C) s = τ at hf hA hH hu h0
    obtain ⟨hT, hM, -, hx, -⟩ := id hA
    have hL : f215_29 1100 102 (-2) 0 0 τ = some (ob (riF (hs s) (worC s) 6), gd τ 0) := by
      rw [riF_more (n := pe C) h6 (fun i a b => by unfold worC; rw [tb_lt hk.2.1 a]; rfl)]
      refine lp (fun m j => f215_29 m 102 (ob (riF (hs s) (worC s) j)) (match riF (hs s) (worC s) j with | none => 0 | some k => nI (hs s k)) (nI j) τ) (pe C) (fun j hj m r hn => ?_) (fun m => ?_) (pe C) 1100 0 (by omega) (by omega)
      · have hj6 : j < 6 := by omega
        simp only [riF] at hn
        show f215_29 (m + 1) _ _ _ _ _ = _
        unfold f215_29 f215_81
        simp only [acM hT.1, acG hT, acT0 hT.2.1, Option.bind_some, hM.1.2.2.1, f190N hT.1 hx hk hj6, bo_0, hj6, hH j hj, show j < 47 by omega, hx.1 j hj, nI_1]
        rw [if_neg (nI_ge hj (by omega))]
        rw [show worC s j = (tb (lv s) j && (decide (¬ hN s j = none) && decide (0 < hs s j))) from rfl] at hn
        cases e1 : tb (lv s) j
        · simpa [e1] using hn
        · have h594 := hk.has hj
          rw [if_neg (by simp), hei_N e1]
          simp only [ob_m2 (hN_6 s j)]
          by_cases e2 : hN s j = none
          · rw [if_pos e2]
            simpa [e1, e2] using hn
          · rw [if_neg e2]
            cases e3 : riF (hs s) (worC s) j with
            | none =>
              simp only [e3, e1, e2, mor] at hn
              simp only [show (0 : Int32) = nI 0 from rfl, nI_ltI (show 0 < 2 ^ 31 by omega) (show hs s j < 2 ^ 31 by omega)]
              by_cases e5 : 0 < hs s j
              · rw [if_pos e5]
                simpa [e5, ob] using hn
              · rw [if_neg e5]
                simpa [e5, nI_0] using hn
            | some k =>
              obtain ⟨k1, k2⟩ := (riF_congr (v2 := hs s) (c2 := worC s) (fun i _ => ⟨rfl, fun _ => rfl⟩)).2 k e3
              have hkl : tb (lv s) k = true := by
                unfold worC at k2
                rw [Bool.and_eq_true] at k2
                exact k2.1
              have h594k := hk.has (hk.lvn hkl)
              simp only [e3, e1, e2, mor] at hn
              simp only [nI_ltI (show hs s k < 2 ^ 31 by omega) (show hs s j < 2 ^ 31 by omega)]
              by_cases e5 : hs s k < hs s j
              · have e6 : 0 < hs s j := by omega
                rw [if_pos e5]
                simpa [e5, e6, ob] using hn
              · rw [if_neg e5]
                simpa [e5] using hn
      · show f215_29 (m + 1) _ _ _ _ _ = _
        unfold f215_29 f215_87
        simp only [acG hT, acT0 hT.2.1, Option.bind_some, hM.1.2.2.1, acM hT.1, f154N hT.1]
        rw [if_pos (nI_le (by omega) (by omega))]
    rw [hL]
    exact mQ_gd hu h0
  · rw [if_neg e]
    simp only [noC h e, Option.bind_some, acM hS1, f151N hS1]
    exact mQ_gd th_upd th_0
end REF
