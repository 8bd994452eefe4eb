/-! THE REFERENCE'S ANSWERS: plot -/
theorem bit_and : ∀ t, t < 64 → t ≠ 0 → nI t &&& (nI t - 1) = nI (t &&& (t - 1)) ∧ cn (t &&& (t - 1)) + 1 = cn t ∧ t &&& (t - 1) < t := by decide +kernel
theorem f158_4N (σ : xM) : ∀ (t m k : Nat), t < 64 → t + 1 ≤ m → f158_4 m (nI k) (nI t) σ = some (nI (k + cn t), σ) := by
  intro t
  induction t using Nat.strongRecOn with
  | ind t ih =>
    intro m k ht hm
    obtain ⟨m, rfl⟩ : ∃ k, m = k + 1 := ⟨m - 1, by omega⟩
    unfold f158_4 f158_20
    simp only [nI_0' t (by omega)]
    by_cases e : t = 0
    · rw [if_pos e, e]
      rfl
    · obtain ⟨h1, h2, h3⟩ := bit_and t ht e
      rw [if_neg e, h1, nI_1, ih _ h3 m (k + 1) (by omega) (by omega), ← h2]
      congr 3
      omega
theorem f158N (σ : xM) {t : Nat} (ht : t < 64) : f158 (nI t) σ = some (nI (cn t), σ) := by
  unfold f158
  have := f158_4N σ t 1100 0 ht (by omega)
  rw [Nat.zero_add] at this
  exact this
theorem cn_sub {s t : Nat} (h : sub s t) : cn s ≤ cn t := by
  unfold cn
  refine sm_le (fun i _ => ?_)
  cases e : tb s i
  · simp
  · rw [h i e]
    exact Nat.le_refl _
theorem cn_le (t : Nat) : cn t ≤ 6 := by
  unfold cn
  exact Nat.le_trans (sm_le (g := fun _ => 1) (fun i _ => by split <;> omega)) (by decide)
/-- the best set so far -/
def ploB (o : Option Nat) (t : Nat) : Option Nat := match o with
  | none => none
  | some B => if B < t then some B else none
section REF
variable {σ : xM} {c n : Nat} {s : Sta} {C : Cty}
theorem m216 (h : QM σ C s) (p q : Int32) : mQ σ (f216 102 p q σ) (aPlo (pe C) s p q) := by
  have h1 := QM_upd th_upd h
  obtain ⟨hS1, hk, hv1, hc1⟩ := id h1
  unfold f216 f216_42 aPlo
  simp only [acM h.1, Option.bind_some]
  rw [show wI σ 102 0 0 = th σ from rfl]
  simp only [acM hS1, Option.bind_some, f187Q h1, bo_0, litM, show 42 < 47 by omega, hv1.2.2.1]
  cases e : two (pe C) p q
  · simpa [f151N hS1] using mQ_gd th_upd th_0
  · obtain ⟨i, j, hi, hj, rfl, rfl, hij⟩ := two_of hk.1 e
    have h6 := hk.1
    have hi6 : i < 6 := by omega
    have hj6 : j < 6 := by omega
    have h64 := hk.lv64
    rw [if_neg (by simp), pN_nI hi6, pN_nI hj6]
    simp only [f157N h64 hi6, Option.bind_some, bo_0, acM hS1, litM, show 42 < 47 by omega, hv1.2.2.1, f157N h64 hj6]
    cases e1 : tb (lv s) i
    · simpa [f151N hS1, acM hS1] using mQ_gd th_upd th_0
    · cases e2 : tb (lv s) j
      · simpa [f151N hS1, acM hS1] using mQ_gd th_upd th_0
      · obtain ⟨c, hf, hA, hH, hu, h0, hv2⟩ := wwQ h (show 0 < pe C by omega)
        simp only [acM hS1, hf, Option.bind_some, Bool.and_self, if_true]
        rw [if_neg (by simp), if_neg (by simp)]
        generalize ww (th σ) (pe C) s = τ at hf hA hH hu h0 hv2
        obtain ⟨hT', hM', hO, hx', -⟩ := id hA
        have hL : f216_58 1100 102 (nI i) (nI j) (-2) 0 τ = some (obP (bwN s i j), gd τ 0) := by
          have hB : ∀ B, bwN s i j = some B → B < 64 ∧ sub B (lv s) ∧ tb B i = true ∧ tb B j = false := fun B eB => by
            obtain ⟨b1, b2⟩ := bw_live eB hi6 e1
            exact ⟨b1, b2, (btF_sub _ _ _ _ eB).2 i rfl hij, btF_not _ _ _ _ eB (tb_0 j)⟩
          have hEn : ∀ t, tb t j = false → tb t i = true → (enN s t i = some j ↔ ∃ B, bwN s i j = some B ∧ sub B t) := fun t a b => en_bw a b hi6
          have hI0 : (-2 : Int32) = obP (ploB (bwN s i j) 0) := by
            cases bwN s i j with
            | none => rfl
            | some B => simp only [ploB]; rw [if_neg (by omega)]; rfl
          have hIe : ploB (bwN s i j) (lv s + 1) = bwN s i j := by
            cases e3 : bwN s i j with
            | none => rfl
            | some B =>
              have := sub_le (hB B e3).2.1
              simp only [ploB]
              rw [if_pos (by omega)]
          have hkeep : ∀ t, (∀ B, bwN s i j = some B → B ≠ t) → ploB (bwN s i j) (t + 1) = ploB (bwN s i j) t := fun t hne => by
            cases e3 : bwN s i j with
            | none => rfl
            | some B =>
              have := hne B e3
              simp only [ploB]
              by_cases e4 : B < t
              · rw [if_pos e4, if_pos (by omega)]
              · rw [if_neg e4, if_neg (by omega)]
          suffices hL2 : f216_58 1100 102 (nI i) (nI j) (obP (ploB (bwN s i j) 0)) 0 τ = some (obP (ploB (bwN s i j) (lv s + 1)), gd τ 0) by
            rw [hIe, ← hI0] at hL2
            exact hL2
          refine lp (fun k t => f216_58 k 102 (nI i) (nI j) (obP (ploB (bwN s i j) t)) (nI t) τ) (lv s + 1) (fun t ht k r hn => ?_) (fun k => ?_) (lv s + 1) 1100 0 (by omega) (by omega)
          · have ht64 : t < 64 := by omega
            have hn : f216_58 k 102 (nI i) (nI j) (obP (ploB (bwN s i j) (t + 1))) (nI (t + 1)) τ = r := hn
            show f216_58 (k + 1) _ _ _ _ _ _ = _
            have hc0 : ¬ nI (lv s) < nI t := nI_nlt (by omega) (by omega)
            unfold f216_58 f216_138
            simp only [acM hT'.1, Option.bind_some, litM, show 42 < 47 by omega, hv2.2.2.1, f157N ht64 hi6, f157N ht64 hj6, bo_0, nI_1]
            rw [if_neg hc0]
            by_cases e3 : nI t &&& (nI (lv s) ^^^ (-1)) = 0
            · have el : lset s (nI t) = true := decide_eq_true e3
              have hsub := (lset_nI h64 ht64).mp el
              rw [if_pos e3]
              cases e4 : tb t i
              · rw [if_pos rfl, ← hkeep t (fun B eB h => by have := (hB B eB).2.2.1; rw [h, e4] at this; cases this)]
                exact hn
              · rw [if_neg (by simp)]
                cases e5 : tb t j
                · rw [if_pos rfl]
                  have he : (ob (enN s t i) = nI j) = (enN s t i = some j) := propext (ob_eq (b := some j) (fun k e => enN_6 e) (fun k e => by cases e; exact hj6))
                  unfold f216_124 f216_138
                  simp only [acM hT'.1, Option.bind_some, f194N hT'.1 hH hk ht64 hsub e4, he, nI_1]
                  cases e6 : ploB (bwN s i j) t with
                  | none =>
                    rw [if_pos (show obP none = -2 from rfl)]
                    by_cases e7 : enN s t i = some j
                    · rw [if_pos e7]
                      obtain ⟨B, eB, hBt⟩ := (hEn t e5 e4).mp e7
                      have hle := sub_le hBt
                      rw [eB] at e6 hn
                      simp only [ploB] at e6 hn
                      have hBe : B = t := by
                        by_cases h : B < t
                        · rw [if_pos h] at e6
                          cases e6
                        · omega
                      rw [if_pos (by omega), hBe] at hn
                      exact hn
                    · rw [if_neg e7]
                      rw [hkeep t (fun B eB h => e7 ((hEn t e5 e4).mpr ⟨B, eB, by rw [h]; exact fun i hi => hi⟩)), e6] at hn
                      exact hn
                  | some B =>
                    have eB : bwN s i j = some B ∧ B < t := by
                      cases e8 : bwN s i j with
                      | none => rw [e8] at e6; cases e6
                      | some B2 =>
                        rw [e8] at e6
                        simp only [ploB] at e6
                        split at e6
                        · cases e6
                          exact ⟨rfl, by assumption⟩
                        · cases e6
                    obtain ⟨b1, b2, -, -⟩ := hB B eB.1
                    have hkp := hkeep t (fun B2 eB2 h => by rw [eB.1] at eB2; cases eB2; omega)
                    rw [hkp, e6] at hn
                    have hcB := cn_le B
                    have hct := cn_le t
                    rw [if_neg (fun h => by
                      have h1 := nI_pos (show B < 2 ^ 31 by omega)
                      have h : nI B = -2 := h
                      rw [h] at h1
                      exact h1 (by decide))]
                    simp only [show obP (some B) = nI B from rfl, f158N τ ht64, f158N τ b1, Option.bind_some, acM hT'.1, f194N hT'.1 hH hk ht64 hsub e4, he, nI_ltI (show cn t < 2 ^ 31 by omega) (show cn B < 2 ^ 31 by omega)]
                    have hne : cn t < cn B → ¬ enN s t i = some j := fun hc h => by
                      obtain ⟨B2, eB2, hs2⟩ := (hEn t e5 e4).mp h
                      rw [eB.1] at eB2
                      cases eB2
                      have := cn_sub hs2
                      omega
                    by_cases e9 : cn t < cn B
                    · rw [if_pos e9, if_neg (hne e9)]
                      exact hn
                    · rw [if_neg e9]
                      exact hn
                · rw [if_neg (by simp), ← hkeep t (fun B eB h => by have := (hB B eB).2.2.2; rw [h, e5] at this; cases this)]
                  exact hn
            · rw [if_neg e3, ← hkeep t (fun B eB h => e3 (of_decide_eq_true ((lset_nI h64 ht64).mpr (h ▸ (hB B eB).2.1))))]
              exact hn
          · show f216_58 (k + 1) _ _ _ _ _ _ = _
            unfold f216_58 f216_144
            simp only [acM hT'.1, Option.bind_some, litM, show 42 < 47 by omega, hv2.2.2.1, f154N hT'.1]
            rw [if_pos (nI_lt (by omega) (by omega))]
        rw [hL]
        exact mQ_gd hu h0
end REF
