/-! NIGHTS BY DRAWS: firstCat in the class -/
/-- the cat has more behind i nights -/
def fcC (C : Cty) (s : Sta) (a i : Nat) : Bool := decide (ct s < ct (ngs C (ssd s a) i))
def aFir (C : Cty) (s : Sta) (x y : Int32) : Int32 × Int32 := if drOr (pe C) x y = 0 then (obP (fs (fcC C s (pN x)) 1 (pN y)), 0) else (-1, drOr (pe C) x y)
section CLASS
variable {σ : xM} {C : Cty} {s : Sta}
theorem f103_36N (h : QC σ C s) (hp : 0 < pe C) {a b : Nat} (ha : a ≤ 65536) (hb : b ≤ 60) : ∀ (k m : Nat) (τ : xM), k ≤ b → k + 1 ≤ m → Upd (Pnt 29) σ τ → cS τ 29 (pe C) (ngs C (ssd s a) (b - k)) → ∃ υ, f103_36 m 0 (nI b) (nI (b - k + 1)) τ = some (obP (fs (fcC C s a) (b - k + 1) k), υ) ∧ Upd (Pnt 29) σ υ := by
  obtain ⟨hS, hpe, hc, hk, hC⟩ := id h
  obtain ⟨hC, hO, -⟩ := hC hp
  intro k
  induction k with
  | zero =>
    intro m τ _ hm hu hc'
    obtain ⟨m, rfl⟩ : ∃ k, m = k + 1 := ⟨m - 1, by omega⟩
    refine ⟨τ, ?_, hu⟩
    rw [f103_36, if_pos (nI_lt (by omega) (by omega))]
    rfl
  | succ k ih =>
    intro m τ hkb hm hu hc'
    obtain ⟨m, rfl⟩ : ∃ k, m = k + 1 := ⟨m - 1, by omega⟩
    have hS' := hu.sh hS
    obtain ⟨hC', -, -⟩ := (QC_upd (P29_Q hu) h).2.2.2.2 hp
    obtain ⟨υ, v1, v2, v3⟩ := f145N (Or.inr rfl) hS' hC' hO hc' (ngs_ok (ssd_ok hk ha) _)
    have hSυ := v2.sh hS'
    have huυ := hu.trans v2
    have hcυ := (QC_upd (P29_Q huυ) h).2.2.1
    have e1 : b - (k + 1) + 1 = b - k := by omega
    have v3 : cS υ 29 (pe C) (ngs C (ssd s a) (b - k)) := by rw [← e1]; exact v3
    have b1 : ct s ≤ 594 := by have := hk.2.2.2.1; omega
    have b2 : ct (ngs C (ssd s a) (b - k)) ≤ 594 := by have := (ngs_ok (C := C) (ssd_ok hk ha) (b - k)).2.2.2.1; omega
    rw [f103_36, if_neg (nI_nlt (by omega) (by omega))]
    simp only [acC hS', Option.bind_some, v1, acC hSυ, v3.2.2.2.1, hcυ.2.2.2.1, nI_leI (show ct (ngs C (ssd s a) (b - k)) < 2 ^ 31 by omega) (show ct s < 2 ^ 31 by omega), nI_1, fs]
    rw [show fcC C s a (b - (k + 1) + 1) = decide (ct s < ct (ngs C (ssd s a) (b - k))) by rw [e1]; rfl]
    by_cases e2 : ct s < ct (ngs C (ssd s a) (b - k))
    · rw [if_neg (by omega), decide_eq_true e2, if_pos rfl]
      exact ⟨υ, rfl, huυ⟩
    · rw [if_pos (by omega), decide_eq_false e2, if_neg (by simp)]
      obtain ⟨ω, w1, w2⟩ := ih m υ (by omega) (by omega) huυ v3
      refine ⟨ω, ?_, w2⟩
      rw [e1]
      exact w1
theorem c103 (h : QC σ C s) (x y : Int32) : cQ σ (f103 0 x y σ) (aFir C s x y) := by
  obtain ⟨hS, hp, hc, hk, hC⟩ := id h
  unfold f103 aFir
  simp only [acC hS, Option.bind_some, f114_eq hS, bo_ref, f122N h]
  by_cases e2 : drOr (pe C) x y = 0
  · obtain ⟨hn, a, b, ha, hb, rfl, rfl⟩ := drOr_0 e2
    have hQ1 := QC_w h 0
    obtain ⟨hS1, -, hc1, -⟩ := id hQ1
    obtain ⟨τ1, t1, t2, t3⟩ := f47N (a := 29) (b := 26) hS1 (by decide) (by decide) (by decide) (by decide) (by decide) (by decide) (by decide) hk.1 hc1
    have hS2 := t2.sh hS1
    have u0 : Upd (Pnt 29) (wI σ 0 8 0) (wI τ1 29 1 (nI a)) := (Pnt_st t2).wI rfl
    obtain ⟨υ, w1, w2⟩ := f103_36N hQ1 hn ha hb b 1100 (wI τ1 29 1 (nI a)) (Nat.le_refl _) (by omega) u0 (by rw [Nat.sub_self]; exact cS_ssd t3)
    rw [if_pos e2, if_pos e2, e2, pN_any ha, pN_any (show b ≤ 65536 by omega)]
    simp only [acC hS1, Option.bind_some, t1, acC hS2]
    rw [Nat.sub_self] at w1
    refine ⟨υ, w1, (Upd.refl.wI rfl).trans (P29_Q w2), ?_⟩
    rw [w2.2.1 0 8 rfl, mI_w, if_pos ⟨rfl, rfl⟩]
  · rw [if_neg e2, if_neg e2]
    exact cQ_w
end CLASS
