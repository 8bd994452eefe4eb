/-! THE REFERENCE'S ANSWERS: person, toAsk, rivals -/
section REF
variable {σ : xM} {c n : Nat} {s : Sta} {C : Cty}
theorem f200N (hT : hasT σ c) (hC : mC σ c C) (hO : OkC C) (hv : mrow (mI σ 104) (pe C) s) (hk : Ok (pe C) s) {p : Nat} (hp : p < pe C) : f200 102 (nI p) σ = some (nI (askr C s p), σ) := by
  have h6 := hO.1
  have hp6 : p < 6 := by omega
  have e0 : askr C s p = col (fun q => tb (lv s) p && (tb (lv s) q && alw C q p)) (pe C) := col_more h6 (fun i h1 h2 => by
    rw [tb_lt hk.2.1 h1]
    simp)
  rw [e0]
  unfold f200
  refine lp (fun m j => f200_4 m 102 (nI p) (nI (col (fun q => tb (lv s) p && (tb (lv s) q && alw C q p)) j)) (nI j) σ) (pe C) (fun j hj m r hn => ?_) (fun m => ?_) (pe C) 1100 0 (by omega) (by omega)
  · have hj6 : j < 6 := by omega
    simp only [col] at hn
    show f200_4 (m + 1) _ _ _ _ _ = _
    unfold f200_4 f200_39 f200_40
    have ht : tb (aska C s j) p = (tb (lv s) p && (tb (lv s) j && alw C j p)) := by
      unfold aska
      rw [tb_col]
      simp only [hp6, decide_true, Bool.true_and]
      cases tb (lv s) p <;> cases tb (lv s) j <;> rfl
    simp only [acM hT.1, acG hT, acT0 hT.2.1, Option.bind_some, hC.1.2.2.1, f199N hT hC hO hv hk hj, f157N (aska_lt C s j) hp6, bo_0, nI_1, or0, ht]
    rw [if_neg (nI_ge hj (by omega))]
    by_cases e1 : j = p
    · rw [if_pos (by rw [e1])]
      have : alw C j p = false := by unfold alw; simp [e1]
      simpa [this] using hn
    · rw [if_neg (fun h => e1 ((nI_eq (by omega) (by omega)).mp h))]
      cases e2 : (tb (lv s) p && (tb (lv s) j && alw C j p))
      · rw [if_pos rfl]
        simp only [e2] at hn
        simpa using hn
      · rw [if_neg (by simp), orN _ (col_lt _ j (show j ≤ 6 by omega)) j hj6]
        simp only [e2] at hn
        simpa using hn
  · show f200_4 (m + 1) _ _ _ _ _ = _
    unfold f200_4 f200_48
    simp only [acG hT, acT0 hT.2.1, Option.bind_some, hC.1.2.2.1]
    rw [if_pos (nI_le (by omega) (by omega))]
theorem f198N (hT : hasT σ c) (hC : mC σ c C) {p : Nat} (hp : p < 6) : f198 102 (nI p) σ = some (nI (nr C p), σ) := by
  unfold f198
  simp only [acG hT, acT0 hT.2.1, acTa hT.2.1, Option.bind_some, hp, (hC.2.2.1 p hp).1]
theorem bitV : ∀ s, s < 64 → ∀ p, p < 6 → ((nI s >>> (nI p &&& 31)) &&& 1) = bo (tb s p) := by decide +kernel
theorem m201 (h : QM σ C s) (p w : Int32) : mQ σ (f201 102 p w σ) (aPer C s p w) := by
  have h1 := QM_upd th_upd h
  obtain ⟨hS1, hk, hv1, hc1⟩ := id h1
  unfold f201 f201_23 aPer
  simp only [acM h.1, Option.bind_some]
  rw [show wI σ 102 0 0 = th σ from rfl]
  simp only [acM hS1, Option.bind_some, f186Q h1, bo_0, f156N]
  cases e : isP (pe C) p
  · simpa [f151N hS1] using mQ_gd th_upd th_0
  · obtain ⟨j, hj, rfl⟩ := isP_nI hk.1 e
    have hj6 : j < 6 := by have := hk.1; omega
    rw [if_neg (by simp), if_pos rfl]
    by_cases ex : w < 0 ∨ 6 < w
    · rw [if_pos (by simp [ex]), if_pos ex, f151N hS1]
      exact mQ_gd th_upd th_0
    · rw [if_neg (by simp [ex]), if_neg ex, pN_nI hj6]
      obtain ⟨c, hg, hT, hM, hO⟩ := isC h (show 0 < pe C by omega)
      unfold perV
      simp only [acM hS1, acG hT, acT0 hT.2.1, acTa hT.2.1, Option.bind_some, hj6, show j < 47 by omega, (hM.2.1 j hj).1, (hM.2.1 j hj).2.2, hv1.1 j hj, litM, show 42 < 47 by omega, hv1.2.2.1, bitV _ hk.lv64 j hj6, f198N hT hM hj6, f199N hT hM hO hv1 hk hj, f200N hT hM hO hv1 hk hj, f154N hS1]
      by_cases w0 : w = 0
      · simpa [w0] using mQ_gd th_upd th_0
      · by_cases w1 : w = 1
        · simpa [w1] using mQ_gd th_upd th_0
        · by_cases w2 : w = 2
          · simpa [w2] using mQ_gd th_upd th_0
          · by_cases w3 : w = 3
            · simpa [w3] using mQ_gd th_upd th_0
            · by_cases w4 : w = 4
              · simpa [w4] using mQ_gd th_upd th_0
              · by_cases w5 : w = 5
                · simpa [w5] using mQ_gd th_upd th_0
                · simpa [w0, w1, w2, w3, w4, w5] using mQ_gd th_upd th_0
theorem m235 (h : QM σ C s) (p : Int32) : mQ σ (f235 102 p σ) (aToa C s p) := by
  have h1 := QM_upd th_upd h
  obtain ⟨hS1, hk, hv1, hc1⟩ := id h1
  unfold f235 aToa
  simp only [acM h.1, Option.bind_some]
  rw [show wI σ 102 0 0 = th σ from rfl]
  simp only [acM hS1, Option.bind_some, f186Q h1, bo_0]
  cases e : isP (pe C) p
  · simpa [f151N hS1] using mQ_gd th_upd th_0
  · obtain ⟨j, hj, rfl⟩ := isP_nI hk.1 e
    have h6 := hk.1
    have hj6 : j < 6 := by omega
    obtain ⟨c, hg, hT, hM, hO⟩ := isC h (show 0 < pe C by omega)
    have hA := wk_AM hT hM hO hv1 hk
    have hu : Upd PmQ σ (wk (th σ)) := th_upd.trans (P105_Q wk_upd)
    have h0 : mI (wk (th σ)) 102 0 = 0 := by rw [wk_upd.2.1 102 0 rfl]; exact th_0
    have hv2 : mrow (mI (wk (th σ)) 104) (pe C) s := row_upd wk_upd (fun _ => rfl) hv1
    rw [if_neg (by simp), if_pos rfl, pN_nI hj6]
    simp only [f188N hS1, Option.bind_some, acM hA.1.1, f199N hA.1 hA.2.1 hO hv2 hk hj]
    generalize wk (th σ) = τ at hA hu h0 hv2
    obtain ⟨hT', hM', -, hx', -⟩ := id hA
    have ha := aska_lt C s j
    have hL : f235_35 1100 102 (nI j) (nI (aska C s j)) (-2) 0 τ = some (ob (riF (hs s) (toaC C s j) 6), gd τ 0) := by
      rw [riF_more (n := pe C) h6 (fun i a b => by
        unfold toaC
        rw [show tb (aska C s j) i = false by
          rw [Bool.eq_false_iff]
          intro h
          have := hk.lvn (aska_sub C s j i h)
          omega]
        rfl)]
      refine lp (fun m k => f235_35 m 102 (nI j) (nI (aska C s j)) (ob (riF (hs s) (toaC C s j) k)) (nI k) τ) (pe C) (fun k hkn m r hn => ?_) (fun m => ?_) (pe C) 1100 0 (by omega) (by omega)
      · have hk6 : k < 6 := by omega
        simp only [riF] at hn
        show f235_35 (m + 1) _ _ _ _ _ _ = _
        unfold f235_35 f235_88 f235_91
        simp only [acM hT'.1, acG hT', acT0 hT'.2.1, Option.bind_some, hM'.1.2.2.1, f157N ha hk6, bo_0, nI_1, f192N hT' hM'.1.2.2.1 hx' hk hk6, show k < 47 by omega, hv2.1 k hkn]
        rw [if_neg (nI_ge hkn (by omega))]
        rw [show toaC C s j k = (tb (aska C s j) k && !tb (hto s j) k) from rfl] at hn
        cases e1 : tb (aska C s j) k
        · simpa [e1] using hn
        · have hl := aska_sub C s j k e1
          have hto_k : tb (hto s j) k = decide (hN s k = some j) := by
            unfold hto
            rw [tb_col, hl]
            simp [hk6]
          have he : (ob (hN s k) = nI j) = (hN s k = some j) := propext (ob_eq (b := some j) (hN_6 s k) (fun k e => by cases e; exact hj6))
          rw [if_neg (by simp), hei_N hl]
          simp only [he]
          rw [hto_k] at hn
          by_cases e2 : hN s k = some j
          · rw [if_pos e2]
            simpa [e1, e2] using hn
          · rw [if_neg e2]
            have h594 := hk.has hkn
            cases e3 : riF (hs s) (toaC C s j) k with
            | none =>
              rw [if_pos (show ob none = -2 from rfl)]
              simp only [e1, e2, e3, mor] at hn
              simpa [ob] using hn
            | some x =>
              obtain ⟨k1, k2⟩ := (riF_congr (v2 := hs s) (c2 := toaC C s j) (fun i _ => ⟨rfl, fun _ => rfl⟩)).2 x e3
              have hxn : x < pe C := by omega
              have h594x := hk.has hxn
              rw [if_neg (ob_ne (show x < 6 by omega))]
              simp only [ob_some, acM hT'.1, show x < 47 by omega, Option.bind_some, hv2.1 x hxn, nI_leI (show hs s k < 2 ^ 31 by omega) (show hs s x < 2 ^ 31 by omega)]
              simp only [e1, e2, e3, mor] at hn
              by_cases e4 : hs s k ≤ hs s x
              · have : ¬ hs s x < hs s k := by omega
                rw [if_pos e4]
                simpa [this, ob] using hn
              · have : hs s x < hs s k := by omega
                rw [if_neg e4]
                simpa [this, ob] using hn
      · show f235_35 (m + 1) _ _ _ _ _ _ = _
        unfold f235_35 f235_97
        simp only [acG hT', acT0 hT'.2.1, Option.bind_some, hM'.1.2.2.1, acM hT'.1, f154N hT'.1]
        rw [if_pos (nI_le (by omega) (by omega))]
    rw [hL]
    exact mQ_gd hu h0
theorem rM_inj {a b : Option Nat} (ha : ∀ x, a = some x → x < 2 ^ 31) (hb : ∀ x, b = some x → x < 2 ^ 31) : (rM a = rM b) = (a = b) := by
  apply propext
  cases a with
  | none =>
    refine ⟨fun e => ?_, fun e => by rw [e]⟩
    have := rM_m1 hb
    rw [← show rM none = -1 from rfl] at this
    exact (this.mp e.symm).symm
  | some x =>
    cases b with
    | none =>
      refine ⟨fun e => ?_, fun e => by rw [e]⟩
      have := rM_m1 ha
      rw [← show rM none = -1 from rfl] at this
      exact this.mp e
    | some y =>
      show nI x = nI y ↔ some x = some y
      rw [nI_eq (ha x rfl) (hb y rfl)]
      simp
theorem rM_lt {a b : Option Nat} (ha : ∀ h, a = some h → h < 2 ^ 31) (hb : ∀ h, b = some h → h < 2 ^ 31) : (rM a < rM b) = (ltO a b = true) := by
  apply propext
  cases a with
  | none =>
    cases b with
    | none => exact ⟨fun h => absurd h (by decide), fun h => by cases h⟩
    | some y =>
      refine ⟨fun _ => rfl, fun _ => ?_⟩
      have := nI_pos' (hb y rfl)
      exact Int32.lt_of_lt_of_le (show (-1 : Int32) < 0 by decide) this
  | some x =>
    cases b with
    | none =>
      refine ⟨fun h => ?_, fun h => by cases h⟩
      have h1 := nI_pos' (ha x rfl)
      exact absurd (Int32.lt_of_le_of_lt h1 h) (by decide)
    | some y =>
      show nI x < nI y ↔ decide (x < y) = true
      rw [nI_ltI (ha x rfl) (hb y rfl), decide_eq_true_eq]
theorem m236 (h : QM σ C s) (p q : Int32) : mQ σ (f236 102 p q σ) (aRiv (pe C) s p q) := by
  have h1 := QM_upd th_upd h
  obtain ⟨hS1, hk, hv1, hc1⟩ := id h1
  unfold f236 f236_62 aRiv
  simp only [acM h.1, Option.bind_some]
  rw [show wI σ 102 0 0 = th σ from rfl]
  simp only [acM hS1, Option.bind_some, f187Q h1, bo_0, litM, show 42 < 47 by omega, hv1.2.2.1]
  cases e : two (pe C) p q
  · simpa [f151N hS1] using mQ_gd th_upd th_0
  · obtain ⟨i, j, hi, hj, rfl, rfl, hij⟩ := two_of hk.1 e
    have h6 := hk.1
    have hi6 : i < 6 := by omega
    have hj6 : j < 6 := by omega
    rw [if_neg (by simp), if_pos rfl, pN_nI hi6, pN_nI hj6]
    simp only [f157N hk.lv64 hj6, Option.bind_some, bo_0, acM hS1, f151N hS1, f188N hS1]
    cases e1 : tb (lv s) j
    · simpa using mQ_gd th_upd th_0
    · obtain ⟨c, hg, hT, hM, hO⟩ := isC h (show 0 < pe C by omega)
      have hA := wk_AM hT hM hO hv1 hk
      have hu : Upd PmQ σ (wk (th σ)) := th_upd.trans (P105_Q wk_upd)
      have h0 : mI (wk (th σ)) 102 0 = 0 := by rw [wk_upd.2.1 102 0 rfl]; exact th_0
      rw [if_neg (by simp), if_pos rfl]
      generalize wk (th σ) = τ at hA hu h0
      obtain ⟨hT', hM', -, hx', -⟩ := id hA
      simp only [acM hT'.1, Option.bind_some, f190N hT'.1 hx' hk hi6, f191N hT'.1 hx' hi6 hj6, bo_0, rM_m1 (regb hk i j), f154N hT'.1]
      cases e2 : tb (lv s) i
      · simpa using mQ_gd hu h0
      · by_cases e3 : rg s i j = none
        · simpa [e3] using mQ_gd hu h0
        · rw [if_neg (by simp), if_neg e3, if_pos (by simp [e3])]
          have hL : f236_74 1100 102 (nI i) (nI j) 0 0 τ = some (nI (col (rivC s i j) 6), gd τ 0) := by
            rw [col_more (n := pe C) h6 (fun k a b => by unfold rivC; rw [tb_lt hk.2.1 a]; simp)]
            refine lp (fun m k => f236_74 m 102 (nI i) (nI j) (nI (col (rivC s i j) k)) (nI k) τ) (pe C) (fun k hkn m r hn => ?_) (fun m => ?_) (pe C) 1100 0 (by omega) (by omega)
            · have hk6 : k < 6 := by omega
              simp only [col] at hn
              show f236_74 (m + 1) _ _ _ _ _ _ = _
              unfold f236_74 f236_148 f236_155
              simp only [acM hT'.1, acG hT', acT0 hT'.2.1, Option.bind_some, hM'.1.2.2.1, f190N hT'.1 hx' hk hk6, f191N hT'.1 hx' hk6 hj6, f191N hT'.1 hx' hi6 hj6, bo_0, nI_1, nI_eq (show k < 2 ^ 31 by omega) (show i < 2 ^ 31 by omega), nI_eq (show k < 2 ^ 31 by omega) (show j < 2 ^ 31 by omega), nI_leI (show i < 2 ^ 31 by omega) (show k < 2 ^ 31 by omega), rM_lt (regb hk i j) (regb hk k j), rM_inj (regb hk k j) (regb hk i j)]
              rw [if_neg (nI_ge hkn (by omega))]
              rw [show rivC s i j k = (decide (¬ k = i) && (tb (lv s) k && (ltO (rg s i j) (rg s k j) || (decide (rg s k j = rg s i j) && decide (k < i))))) from rfl] at hn
              by_cases g1 : k = i
              · rw [if_pos g1]
                simpa [g1] using hn
              · rw [if_neg g1]
                by_cases g0 : k = j
                · rw [if_pos g0]
                  have hnn : rg s k j = none := by rw [g0]; exact hk.2.2.2.2.2.2.2.2 j hj
                  have hl0 : ltO (rg s i j) none = false := by cases rg s i j <;> rfl
                  have hne : ¬ none = rg s i j := fun h => e3 h.symm
                  rw [hnn, hl0] at hn
                  simpa [hne] using hn
                · rw [if_neg g0]
                  cases g2 : tb (lv s) k
                  · simpa [g1, g2] using hn
                  · rw [if_neg (by simp)]
                    cases g3 : ltO (rg s i j) (rg s k j)
                    · rw [if_neg (by simp)]
                      by_cases g4 : rg s k j = rg s i j
                      · rw [if_pos g4]
                        by_cases g5 : i ≤ k
                        · have : ¬ k < i := by omega
                          rw [if_pos g5]
                          rw [g4] at g3
                          simpa [g1, g2, g3, g4, this] using hn
                        · have : k < i := by omega
                          rw [if_neg g5, orN _ (col_lt _ k (show k ≤ 6 by omega)) k hk6]
                          simpa [g1, g2, g3, g4, this] using hn
                      · rw [if_neg g4]
                        simpa [g1, g2, g3, g4] using hn
                    · rw [if_pos rfl, orN _ (col_lt _ k (show k ≤ 6 by omega)) k hk6]
                      simpa [g1, g2, g3] using hn
            · show f236_74 (m + 1) _ _ _ _ _ _ = _
              unfold f236_74 f236_161
              simp only [acG hT', acT0 hT'.2.1, Option.bind_some, hM'.1.2.2.1, acM hT'.1, f154N hT'.1]
              rw [if_pos (nI_le (by omega) (by omega))]
          rw [hL]
          exact mQ_gd hu h0
end REF
