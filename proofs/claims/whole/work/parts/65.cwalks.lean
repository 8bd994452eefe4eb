/-! TOURS in the class: the least hours by sets, apart -/
def P95 : Nat → Nat → Bool := fun a _ => Nat.beq a 95
/-- what stands in the row of a set, at one house -/
def rowD (E : Nat → Nat) (p S : Nat) (v : Int32) (l : Nat) : Prop := (tb S l = true → ∃ d, v = nI d ∧ isD E p S l d) ∧ (tb S l = false → v = nI 1000)
def tab (τ : xM) (C : Cty) (p : Nat) : Prop := ∀ S, 1 ≤ S → S < 64 → ∀ l, l < 6 → rowD (nr C) p S (mI τ 95 (S * 6 + l)) l
theorem tab_upd {P : Nat → Nat → Bool} {σ τ : xM} {C : Cty} {p : Nat} (hu : Upd P σ τ) (hP : ∀ k, P 95 k = false) (h : tab σ C p) : tab τ C p := fun S h1 h2 l hl => by
  rw [hu.2.1 95 _ (hP _)]
  exact h S h1 h2 l hl
section CLASS
variable {σ : xM} {C : Cty} {s : Sta}
def wyd (σ : xM) (C : Cty) : Prop := ∀ i, i < 36 → mI σ 22 i = nI (wyF C i)
theorem wy_le (hE : ∀ x, x < 6 → nr C x < 64) {x y : Nat} (hx : x < 6) (hy : y < 6) : wyF C (x * 6 + y) ≤ 1000 := ((way_ok hE).1 x y hx hy).1
/-- leastTo -/
theorem f54N (hS : Sh σ) (hw : wyd σ C) (hE : ∀ x, x < 6 → nr C x < 64) {p l S : Nat} (hp : p < 6) (hl : l < 6) (hS64 : S < 64) {f : Nat → Nat} (hf : ∀ q, q < 6 → tb (dif S (2 ^ l)) q = true → mI σ 95 (dif S (2 ^ l) * 6 + q) = nI (f q) ∧ f q ≤ 1000) : f54 94 (nI p) (nI S) (nI l) 22 σ = some (nI (if dif S (2 ^ l) = 0 then wyF C (p * 6 + l) else mnF (fun q => f q + wyF C (q * 6 + l)) (tb (dif S (2 ^ l))) 6), σ) := by
  have h2l : 2 ^ l < 64 := Nat.pow_lt_pow_right (a := 2) (by omega) (show l < 6 from hl)
  have hR := dif_lt (s := S) (t := 2 ^ l) hS64
  unfold f54
  rw [shlN l hl, difN S hS64 _ h2l]
  generalize dif S (2 ^ l) = R at hf hR
  simp only [nI_0' R (by omega), f125_eq, Option.bind_some, nI_pair]
  by_cases e : R = 0
  · rw [if_pos e, if_pos e]
    simp only [acC hS, show p * 6 + l < 36 by omega, hw _ (show p * 6 + l < 36 by omega), Option.bind_some]
  · rw [if_neg e, if_neg e]
    refine lp (fun m j => f54_31 m 94 (nI l) 22 (nI R) (nI (mnF (fun q => f q + wyF C (q * 6 + l)) (tb R) j)) (nI j) σ) 6 (fun j hj m r hn => ?_) (fun m => ?_) 6 1100 0 rfl (by omega)
    · have hn : f54_31 m 94 (nI l) 22 (nI R) (nI (mnF (fun q => f q + wyF C (q * 6 + l)) (tb R) (j + 1))) (nI (j + 1)) σ = r := hn
      show f54_31 (m + 1) _ _ _ _ _ _ _ = _
      rw [f54_31, if_neg (show ¬ (6 : Int32) ≤ nI j from nI_ge (b := 6) hj (by omega)), f124N hR hj, Option.bind_some]
      unfold f54_78
      simp only [bo_0, nI_1]
      rw [mnF] at hn
      cases e2 : tb R j
      · rw [if_pos rfl]
        rw [e2, if_neg (by simp)] at hn
        exact hn
      · obtain ⟨f1, f2⟩ := hf j hj e2
        have hb := wy_le hE hj hl
        have hm := (mnF_le (f := fun q => f q + wyF C (q * 6 + l)) (c := tb R) j).1
        rw [if_neg (by simp)]
        simp only [acW hS, acC hS, Option.bind_some, nI_pair, f125_eq, show R * 6 + j < 384 by omega, show j * 6 + l < 36 by omega, f1, hw _ (show j * 6 + l < 36 by omega), nI_add]
        rw [e2, if_pos rfl] at hn
        rw [minN (by omega) (by omega)]
        exact hn
    · show f54_31 (m + 1) _ _ _ _ _ _ _ = _
      rw [f54_31, if_pos (show (6 : Int32) ≤ nI 6 by decide)]
      rfl
/-- one set of measure -/
theorem f53_11N (hS : Sh σ) (hw : wyd σ C) (hE : ∀ x, x < 6 → nr C x < 64) {p S : Nat} (hp : p < 6) (hS1 : 1 ≤ S) (hS64 : S < 64) (ht : ∀ T, 1 ≤ T → T < S → ∀ l, l < 6 → rowD (nr C) p T (mI σ 95 (T * 6 + l)) l) (K : Nat → Int32 → Nat → Int32 → xM → Option xM) : ∃ τ, f53_11 K 1100 94 (nI p) 22 (nI S) 0 σ = K 94 (nI p) 22 (nI (S + 1)) τ ∧ Upd P95 σ τ ∧ ∀ T, 1 ≤ T → T < S + 1 → ∀ l, l < 6 → rowD (nr C) p T (mI τ 95 (T * 6 + l)) l := by
  have hway := way_ok hE
  refine lpI (fun m j τ => f53_11 K m 94 (nI p) 22 (nI S) (nI j) τ) 6 (fun j τ => Upd P95 σ τ ∧ (∀ T, 1 ≤ T → T < S → ∀ l, l < 6 → rowD (nr C) p T (mI τ 95 (T * 6 + l)) l) ∧ ∀ l, l < j → rowD (nr C) p S (mI τ 95 (S * 6 + l)) l) (fun o => ∃ τ, o = K 94 (nI p) 22 (nI (S + 1)) τ ∧ Upd P95 σ τ ∧ ∀ T, 1 ≤ T → T < S + 1 → ∀ l, l < 6 → rowD (nr C) p T (mI τ 95 (T * 6 + l)) l) (fun j hj m τ hI => ?_) (fun m τ hI => ?_) 6 1100 0 σ rfl (by omega) ⟨Upd.refl, ht, fun l hl => by omega⟩
  · obtain ⟨hu, ht1, ht2⟩ := hI
    have hS' := hu.sh hS
    have hw' : wyd τ C := fun i hi => (hu.2.1 22 i rfl).trans (hw i hi)
    have hgo : ∀ v, rowD (nr C) p S v j → Upd P95 σ (wI τ 95 (S * 6 + j) v) ∧ (∀ T, 1 ≤ T → T < S → ∀ l, l < 6 → rowD (nr C) p T (mI (wI τ 95 (S * 6 + j) v) 95 (T * 6 + l)) l) ∧ ∀ l, l < j + 1 → rowD (nr C) p S (mI (wI τ 95 (S * 6 + j) v) 95 (S * 6 + l)) l := fun v hv => by
      refine ⟨hu.wI rfl, fun T h1 h2 l hl => ?_, fun l hl => ?_⟩
      · rw [mI_w, if_neg (by omega)]
        exact ht1 T h1 h2 l hl
      · rw [mI_w]
        by_cases e : l = j
        · rw [if_pos ⟨rfl, by omega⟩, e]
          exact hv
        · rw [if_neg (by omega)]
          exact ht2 l (by omega)
    show ∃ τ', _ ∧ f53_11 K (m + 1) _ _ _ _ _ _ = f53_11 K m _ _ _ _ _ _
    rw [f53_11, if_neg (show ¬ (6 : Int32) ≤ nI j from nI_ge (b := 6) hj (by omega))]
    unfold f53_53
    simp only [acW hS', f124N hS64 hj, Option.bind_some, bo_0, nI_pair, nI_1, show S * 6 + j < 384 by omega]
    cases e : tb S j
    · rw [if_pos rfl]
      exact ⟨_, hgo 1000 ⟨fun h => absurd h (by rw [e]; simp), fun _ => rfl⟩, rfl⟩
    · rw [if_neg (by simp)]
      have h2j : 2 ^ j < 64 := Nat.pow_lt_pow_right (a := 2) (by omega) (show j < 6 from hj)
      have hR := dif_lt (s := S) (t := 2 ^ j) hS64
      have hlt : dif S (2 ^ j) < S := by
        have h1 : dif S (2 ^ j) ≤ S := Nat.and_le_left
        have h2 : dif S (2 ^ j) ≠ S := fun h => by
          have := tb_dif (s := S) h2j hj
          rw [h, e, tb_pow] at this
          simp at this
        omega
      have hf : ∀ q, q < 6 → tb (dif S (2 ^ j)) q = true → mI τ 95 (dif S (2 ^ j) * 6 + q) = nI (pN (mI τ 95 (dif S (2 ^ j) * 6 + q))) ∧ isD (nr C) p (dif S (2 ^ j)) q (pN (mI τ 95 (dif S (2 ^ j) * 6 + q))) := fun q hq hb => by
        have h0 : 1 ≤ dif S (2 ^ j) := by
          rcases Nat.eq_zero_or_pos (dif S (2 ^ j)) with h | h
          · rw [h, tb_0] at hb
            cases hb
          · exact h
        obtain ⟨d, d1, d2⟩ := (ht1 _ h0 hlt q hq).1 hb
        have : pN (mI τ 95 (dif S (2 ^ j) * 6 + q)) = d := by
          rw [d1]
          exact nI_clamp (by have := d2.1; omega)
        rw [this]
        exact ⟨d1, d2⟩
      rw [f54N hS' hw' hE hp hj hS64 (f := fun q => pN (mI τ 95 (dif S (2 ^ j) * 6 + q))) (fun q hq hb => ⟨(hf q hq hb).1, (hf q hq hb).2.1⟩)]
      simp only [Option.bind_some, acW hS', show S * 6 + j < 384 by omega]
      refine ⟨_, hgo _ ⟨fun _ => ⟨_, rfl, ?_⟩, fun h => absurd h (by rw [e]; simp)⟩, rfl⟩
      by_cases e0 : dif S (2 ^ j) = 0
      · rw [if_pos e0]
        have hSj : S = 2 ^ j := tb_ext6 hS64 h2j (fun i hi => by
          have h3 := tb_dif (s := S) h2j hi
          rw [e0, tb_0, tb_pow] at h3
          rw [tb_pow]
          by_cases ei : i = j
          · rw [ei, e]
            simp
          · rw [decide_eq_false ei] at h3 ⊢
            simpa using h3.symm)
        rw [hSj]
        exact isD_one hway hp hj
      · rw [if_neg e0]
        exact isD_more hway hE hp hj hS64 e rfl e0 (fun q hq hb => (hf q hq hb).2)
  · obtain ⟨hu, ht1, ht2⟩ := hI
    refine ⟨τ, ?_, hu, fun T h1 h2 l hl => ?_⟩
    · show f53_11 K (m + 1) _ _ _ _ _ _ = _
      rw [f53_11, if_pos (show (6 : Int32) ≤ nI 6 by decide)]
      unfold f53_60
      rw [nI_1]
    · by_cases e : T = S
      · rw [e]
        exact ht2 l hl
      · exact ht1 T h1 (by omega) l hl
/-- measure -/
theorem f53N (hS : Sh σ) (hw : wyd σ C) (hE : ∀ x, x < 6 → nr C x < 64) {p : Nat} (hp : p < 6) : ∃ τ, f53 94 (nI p) 22 σ = some τ ∧ Upd P95 σ τ ∧ tab τ C p := by
  unfold f53
  refine lpI (fun m j τ => f53_2 m 94 (nI p) 22 (nI (j + 1)) τ) 63 (fun j τ => Upd P95 σ τ ∧ ∀ T, 1 ≤ T → T < j + 1 → ∀ l, l < 6 → rowD (nr C) p T (mI τ 95 (T * 6 + l)) l) (fun o => ∃ τ, o = some τ ∧ Upd P95 σ τ ∧ tab τ C p) (fun j hj m τ hI => ?_) (fun m τ hI => ?_) 63 1100 0 σ rfl (by omega) ⟨Upd.refl, fun T h1 h2 => by omega⟩
  · obtain ⟨hu, ht⟩ := hI
    obtain ⟨υ, v1, v2, v3⟩ := f53_11N (hu.sh hS) (fun i hi => (hu.2.1 22 i rfl).trans (hw i hi)) hE hp (show 1 ≤ j + 1 by omega) (show j + 1 < 64 by omega) ht (f53_2 m)
    refine ⟨υ, ⟨hu.trans v2, v3⟩, ?_⟩
    show f53_2 (m + 1) _ _ _ _ _ = f53_2 m _ _ _ _ _
    rw [f53_2, if_neg (show ¬ (64 : Int32) ≤ nI (j + 1) from nI_ge (b := 64) (by omega) (by omega)), v1]
  · obtain ⟨hu, ht⟩ := hI
    refine ⟨τ, ?_, hu, fun S h1 h2 => ht S h1 h2⟩
    show f53_2 (m + 1) _ _ _ _ _ = _
    rw [f53_2, if_pos (show (64 : Int32) ≤ nI (63 + 1) by decide)]
    rfl
/-- hoursFor -/
theorem f55N (hS : Sh σ) (hE : ∀ x, x < 6 → nr C x < 64) {p S : Nat} (hp : p < 6) (hS64 : S < 64) (ht : tab σ C p) : f55 94 (nI S) σ = some (nI (hrs (nr C) p S), σ) ∧ hrs (nr C) p S ≤ 1000 := by
  unfold f55 f55_10
  by_cases e : S = 0
  · rw [e, if_pos (by decide), hrs_eq (isH_0 hp)]
    exact ⟨rfl, by omega⟩
  · rw [if_neg (nI_nle (by omega) (by omega)), if_pos (show nI S < (64 : Int32) from nI_lt (b := 64) hS64 (by omega))]
    have hf : ∀ q, q < 6 → tb S q = true → mI σ 95 (S * 6 + q) = nI (pN (mI σ 95 (S * 6 + q))) ∧ isD (nr C) p S q (pN (mI σ 95 (S * 6 + q))) := fun q hq hb => by
      obtain ⟨d, d1, d2⟩ := (ht S (by omega) hS64 q hq).1 hb
      have : pN (mI σ 95 (S * 6 + q)) = d := by
        rw [d1]
        exact nI_clamp (by have := d2.1; omega)
      rw [this]
      exact ⟨d1, d2⟩
    have hH := isH_of hE hp hS64 e (fun q hq hb => (hf q hq hb).2)
    rw [hrs_eq hH]
    refine ⟨?_, hH.1⟩
    refine lp (fun m j => f55_18 m 94 (nI S) (nI (mnF (fun q => pN (mI σ 95 (S * 6 + q))) (tb S) j)) (nI j) σ) 6 (fun j hj m r hn => ?_) (fun m => ?_) 6 1100 0 rfl (by omega)
    · have hn : f55_18 m 94 (nI S) (nI (mnF (fun q => pN (mI σ 95 (S * 6 + q))) (tb S) (j + 1))) (nI (j + 1)) σ = r := hn
      have hm := (mnF_le (f := fun q => pN (mI σ 95 (S * 6 + q))) (c := tb S) j).1
      show f55_18 (m + 1) _ _ _ _ _ = _
      rw [f55_18, if_neg (show ¬ (6 : Int32) ≤ nI j from nI_ge (b := 6) hj (by omega))]
      simp only [acW hS, Option.bind_some, nI_pair, show S * 6 + j < 384 by omega, nI_1]
      rw [mnF] at hn
      cases e2 : tb S j
      · rw [e2, if_neg (by simp)] at hn
        rw [(ht S (by omega) hS64 j hj).2 e2, if_neg (nI_nlt (a := 1000) (by omega) (by omega))]
        exact hn
      · rw [e2, if_pos rfl] at hn
        rw [(hf j hj e2).1, minN (by have := (hf j hj e2).2.1; omega) (by omega)]
        exact hn
    · show f55_18 (m + 1) _ _ _ _ _ = _
      rw [f55_18, if_pos (show (6 : Int32) ≤ nI 6 by decide)]
      rfl
end CLASS
def aApa (C : Cty) (p q : Int32) : Int32 × Int32 := if isP (pe C) p && isP (pe C) q then (if wyF C (pN p * 6 + pN q) < 1000 then nI (wyF C (pN p * 6 + pN q)) else -2, 0) else (-1, 1)
section CLASS
variable {σ : xM} {C : Cty} {s : Sta}
theorem c89 (h : QC σ C s) (p q : Int32) : cQ σ (f89 0 p q σ) (aApa C p q) := by
  obtain ⟨hS, hp, hc, hk, hC⟩ := id h
  unfold f89 f89_21 f89_22 f89_57 aApa
  simp only [acC hS, Option.bind_some, f116_eq hS hk.1 hp, bo_0, f114_eq hS, bo_ref]
  cases e1 : isP (pe C) p
  · simpa using cQ_w
  · cases e2 : isP (pe C) q
    · simpa using cQ_w
    · obtain ⟨i, hi, rfl⟩ := isP_nI hk.1 e1
      obtain ⟨j, hj, rfl⟩ := isP_nI hk.1 e2
      have h6 := hk.1
      obtain ⟨hS1, hp1, hc1, -, hC1⟩ := QC_w h 0
      obtain ⟨hC1, hO, hwy⟩ := hC1 (by omega)
      have hb := wy_le (C := C) (fun x hx => hO.nr64 hx) (show i < 6 by omega) (show j < 6 by omega)
      rw [pN_nI (show i < 6 by omega), pN_nI (show j < 6 by omega)]
      simp only [if_true, Bool.true_and, acC hS1, Option.bind_some, f125_eq, nI_pair, show i * 6 + j < 36 by omega, hwy _ (show i * 6 + j < 36 by omega)]
      rw [if_neg (by simp), if_neg (by simp)]
      by_cases e3 : wyF C (i * 6 + j) < 1000
      · rw [if_pos (show nI (wyF C (i * 6 + j)) < (1000 : Int32) from nI_lt (b := 1000) e3 (by omega)), if_pos e3]
        exact cQ_w
      · rw [if_neg (show ¬ nI (wyF C (i * 6 + j)) < (1000 : Int32) from nI_nlt (b := 1000) (by omega) (by omega)), if_neg e3]
        exact cQ_w
end CLASS
