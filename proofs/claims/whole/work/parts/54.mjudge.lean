/-! AS IT WAS TOLD: the reference's judge -/
def wrC (C : Cty) (s : Sta) (p : Nat) : Bool := match wn C p with
  | none => false
  | some w => decide (¬ w = hN s p)
section REF
variable {σ : xM} {c : Nat} {C : Cty} {s : Sta}
/-- wrong -/
theorem f239N (hA : AM σ c C s) (hl : ∀ p, p < pe C → tb (lv s) p = true) : f239 102 σ = some (ob (fs (wrC C s) 0 6), σ) := by
  obtain ⟨hT, hM, hO, hx, hk⟩ := id hA
  have h6 := hk.1
  have e0 : fs (wrC C s) 0 6 = fs (wrC C s) 0 (pe C) := by
    have := fs_more (c := wrC C s) (pe C) (6 - pe C) 0 (fun i h1 h2 => by
      unfold wrC
      rw [hO.2.2.2.2.2.2.1 i (by omega)])
    rw [show pe C + (6 - pe C) = 6 by omega] at this
    exact this
  rw [e0]
  unfold f239
  have e1 : ∀ m j, j < pe C → f239_2 (m + 1) 102 (nI j) σ = if wrC C s j = false then f239_2 m 102 (nI (j + 1)) σ else some (nI j, σ) := fun m j hj => by
    have hj6 : j < 6 := by omega
    have hw : mI σ (c + 5) j = wM (wn C j) := (hM.2.2.1 j hj6).2
    rw [f239_2]
    unfold f239_45
    simp only [acM hT.1, acG hT, acT0 hT.2.1, acTa hT.2.1, Option.bind_some, hM.1.2.2.1, hj6, hw, nI_1, wM_m1 hO j, f192N hT hM.1.2.2.1 hx hk hj6]
    rw [if_neg (nI_ge hj (by omega)), hei_N (hl j hj)]
    unfold wrC
    cases ew : wn C j with
    | none => simp
    | some w =>
      have he : (ob (hN s j) = wM (some w)) = (w = hN s j) := by
        have h1 : wM (some w) = ob w := by cases w <;> rfl
        rw [h1]
        apply propext
        rw [ob_eq (hN_6 _ j) (fun k ek => wn_6 hO (ek ▸ ew))]
        exact ⟨Eq.symm, Eq.symm⟩
      simp only [he]
      by_cases e2 : w = hN s j
      · simp [e2]
      · simp [e2]
  refine lpE (fun m j => f239_2 m 102 (nI j) σ) (pe C) (wrC C s) (fun o => some (ob o, σ)) (fun j hj hc m r hn => ?_) (fun j hj hc m => ?_) (fun m => ?_) (pe C) 1100 0 (by omega) (by omega)
  · show f239_2 (m + 1) _ _ _ = _
    rw [e1 m j hj, if_pos hc]
    exact hn
  · show f239_2 (m + 1) _ _ _ = _
    rw [e1 m j hj, if_neg (by rw [hc]; simp)]
    rfl
  · show f239_2 (m + 1) _ _ _ = _
    rw [f239_2]
    simp only [acG hT, acT0 hT.2.1, Option.bind_some, hM.1.2.2.1]
    rw [if_pos (nI_le (by omega) (by omega))]
    rfl
theorem m247 (h : QM σ C s) : mQ σ (f247 102 σ) (aJud C) := by
  have h1 := QM_upd th_upd h
  obtain ⟨hS1, hk, hv1, hc1⟩ := id h1
  unfold f247 aJud
  simp only [acM h.1, Option.bind_some]
  rw [show wI σ 102 0 0 = th σ from rfl]
  by_cases e : 0 < pe C
  · obtain ⟨c, hg, hT, hM, hO⟩ := isC h e
    obtain ⟨τ, t1, t2, t3⟩ := f189N hT hM hO
    have hA : AM τ c C (told C) := ⟨t2.hasT hT, mC_lo t2 lo105 hT.2.1.1 hM, hO, t3, told_ok hO⟩
    have hS2 := hA.1.1
    rw [if_pos e]
    simp only [hg, Option.bind_some, acM hS1, t1, acM hS2, f239N hA (fun p hp => by show tb (2 ^ pe C - 1) p = true; rw [tb_all]; exact decide_eq_true hp), f154N hS2]
    exact mQ_gd (th_upd.trans (P105_Q t2)) ((t2.2.1 102 0 rfl).trans th_0)
  · rw [if_neg e]
    simp only [noC h e, Option.bind_some, acM hS1, f151N hS1]
    exact mQ_gd th_upd th_0
end REF
