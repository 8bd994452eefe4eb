/-! HOURS THAT AREN'T SURE: fitting in the reference -/
def prS (C : Cty) : Nat → Nat
  | 0 => 1
  | j + 1 => prS C j * sp C j
theorem prS_cds {C : Cty} (hn : nHe C ≤ 3) : prS C (nHe C) = cds C := by
  have h1 : ∀ j, nHe C ≤ j → sp C j = 1 := fun j hj => by unfold sp; rw [if_neg (by omega)]
  unfold cds
  rcases (by omega : nHe C = 0 ∨ nHe C = 1 ∨ nHe C = 2 ∨ nHe C = 3) with e | e | e | e
  · rw [e, h1 0 (by omega), h1 1 (by omega), h1 2 (by omega)]
    rfl
  · rw [e, h1 1 (by omega), h1 2 (by omega)]
    simp only [prS]
  · rw [e, h1 2 (by omega)]
    simp only [prS]
    rw [Nat.one_mul, Nat.one_mul, Nat.mul_comm]
  · rw [e]
    simp only [prS]
    rw [Nat.one_mul, Nat.mul_comm (sp C 0 * sp C 1), ← Nat.mul_assoc, Nat.mul_right_comm]
theorem prS_b {C : Cty} (hO : OkC C) : ∀ j, j ≤ 3 → prS C j ≤ 343 := by
  have b0 := sp_b hO 0
  have b1 := sp_b hO 1
  have b2 := sp_b hO 2
  intro j hj
  have h1 : prS C 1 ≤ 1 * 7 := Nat.mul_le_mul (Nat.le_refl _) b0.2.1
  have h2 : prS C 2 ≤ 1 * 7 * 7 := Nat.mul_le_mul h1 b1.2.1
  have h3 : prS C 3 ≤ 1 * 7 * 7 * 7 := Nat.mul_le_mul h2 b2.2.1
  rcases (by omega : j = 0 ∨ j = 1 ∨ j = 2 ∨ j = 3) with rfl | rfl | rfl | rfl
  · show 1 ≤ 343
    omega
  · omega
  · omega
  · omega
section REF
variable {σ : xM} {c : Nat} {s : Sta} {C : Cty}
/-- one code -/
theorem f240_203N (K : Nat → Int32 → Int32 → Int32 → Int32 → Int32 → xM → Option (Int32 × xM)) (hT : hasT σ c) (hM : mC σ c C) (hO : OkC C) {o : Option Nat} {k x : Nat} (ho : ∀ i, o = some i → i < 2 ^ 31) (hok : ∀ i, o = some i → k < nHe C) (hk31 : k < 2 ^ 31) (hx : x ≤ 342) {τ : xM} (hI : ftI σ C o k x τ) (hg : xg τ C (rgF C x)) (hho : ∀ k, k < nHe C → mI τ 112 k = nI (dg C x k)) : ∃ τ', f240_203 K 102 (oiI o) (nI k) (bo (oiF C o x).isSome) (nI (cds C)) (nI x) τ = K 102 (oiI o) (nI k) (bo (oiF C o (x + 1)).isSome) (nI (cds C)) (nI (x + 1)) τ' ∧ ftI σ C o k (x + 1) τ' := by
  obtain ⟨hu, h33, htl, hhr, h34⟩ := hI
  have hn := hO.2.2.2.2.2.2.2.2.2.2.2.1
  have hT' := hu.hasT hT
  have hM' := mC_lo hu loFt hT.2.1.1 hM
  have hcl := cnF_le (fok C) x
  obtain ⟨sn, sn2⟩ := oi_snoc (C := C) (j := x) ho (by omega)
  unfold f240_203
  simp only [acM hT'.1, Option.bind_some, f239G hT' hM' hO hg (rgF_b hO x)]
  have h6lt : ∀ k, fs (wrG C (rgF C x)) 0 6 = some k → k < 6 := fun k e => by have := (fs_lt _ _ _ e).1; omega
  simp only [ob_m2 h6lt]
  cases ef : fok C x
  · have hne : ¬ fs (wrG C (rgF C x)) 0 6 = none := fun h => by
      unfold fok at ef
      rw [h] at ef
      cases ef
    rw [if_neg hne]
    unfold f240_362
    rw [sn, if_neg (fun h => by rw [ef] at h; cases h.1), nI_1]
    refine ⟨τ, rfl, hu, by rw [h33, cnF, ef]; rfl, fun k hk h hh => ?_, fun p hp q hq => ?_, fun y hy => ?_⟩
    · rw [htl k hk h hh, cnF]
      unfold prt
      rw [ef]
      rfl
    · rw [hhr p hp q hq, cnF]
      unfold hby
      rw [ef]
      rfl
    · rw [sn, if_neg (fun h => by rw [ef] at h; cases h.1)] at hy
      exact h34 y hy
  · have he : fs (wrG C (rgF C x)) 0 6 = none := by
      unfold fok at ef
      cases e : fs (wrG C (rgF C x)) 0 6 with
      | none => rfl
      | some j => rw [e] at ef; cases ef
    rw [if_pos he]
    have fin : ∀ (τ1 : xM) (fl : Bool), Upd Pft σ τ1 → mI τ1 102 33 = nI (cnF (fok C) x) → tlM τ1 C x → hrM τ1 C x → xg τ1 C (rgF C x) → (∀ k, k < nHe C → mI τ1 112 k = nI (dg C x k)) → (∀ y, oiF C o (x + 1) = some y → mI τ1 102 34 = nI (lw C k + dg C y k)) → ∃ τ', f240_256 K 102 (oiI o) (nI k) (bo fl) (nI (cds C)) (nI x) τ1 = K 102 (oiI o) (nI k) (bo fl) (nI (cds C)) (nI (x + 1)) τ' ∧ ftI σ C o k (x + 1) τ' := fun τ1 fl u1 g33 gtl ghr gg gho g34 => by
      have hS1 := u1.sh hT.1
      have u2 : Upd Pft σ (wI τ1 102 33 (nI (cnF (fok C) x + 1))) := u1.wI rfl
      have uw : Upd (fun a j => Nat.beq a 102) τ1 (wI τ1 102 33 (nI (cnF (fok C) x + 1))) := Upd.refl.wI rfl
      have hT2 := u2.hasT hT
      have hM2 := mC_lo u2 loFt hT.2.1.1 hM
      obtain ⟨τ2, a1, a2, a3⟩ := f240_269N K hT2 hM2 hO ef (fun j hj => by rw [uw.2.1 112 j rfl]; exact gho j hj) (fun j hj h hh => by rw [uw.2.1 113 _ rfl]; exact gtl j hj h hh) (oiI o) (nI k) (bo fl) (nI (cds C)) (nI x)
      have u3 := u2.trans (ft_113 a2)
      have hT3 := u3.hasT hT
      have hM3 := mC_lo u3 loFt hT.2.1.1 hM
      obtain ⟨τ3, b1, b2, b3⟩ := f240_312N K hT3 hM3 hO ef ⟨fun p hp q hq => by rw [a2.2.1 105 _ rfl, uw.2.1 105 _ rfl]; exact gg.1 p hp q hq, by rw [a2.2.1 105 _ rfl, uw.2.1 105 _ rfl]; exact gg.2⟩ (fun p hp q hq => by rw [a2.2.1 114 _ rfl, uw.2.1 114 _ rfl]; exact ghr p hp q hq) (oiI o) (nI k) (bo fl) (nI (cds C))
      unfold f240_256
      simp only [acM hS1, Option.bind_some, g33, nI_1]
      rw [a1, b1]
      refine ⟨τ3, rfl, u3.trans (ft_114 b2), ?_, fun j hj h hh => ?_, b3, fun y hy => ?_⟩
      · rw [b2.2.1 102 33 rfl, a2.2.1 102 33 rfl, mI_w, if_pos ⟨rfl, rfl⟩, cnF, ef, if_pos rfl]
      · rw [b2.2.1 113 _ rfl]
        exact a3 j hj h hh
      · rw [b2.2.1 102 34 rfl, a2.2.1 102 34 rfl, mI_w, if_neg (by omega)]
        exact g34 y hy
    simp only [acM hT'.1, acG hT', acT0 hT'.2.1, Option.bind_some, h33, hM'.1.2.2.2.2.2.1]
    by_cases e1 : nI (cnF (fok C) x) = oiI o
    · have hk : k < nHe C := by
        cases o with
        | none =>
          have h1 := nI_pos (show cnF (fok C) x < 2 ^ 31 by omega)
          rw [e1] at h1
          exact absurd (by decide) h1
        | some i => exact hok i rfl
      rw [if_pos e1, if_neg (nI_ge hk (by omega))]
      simp only [f237N hT' hM' hO hk, Option.bind_some, acM hT'.1, show k < 3 by omega, hho k hk, nI_add]
      unfold f240_253
      simp only [acM hT'.1, Option.bind_some]
      rw [show (1 : Int32) = bo true from rfl, sn, if_pos ⟨ef, e1⟩]
      have uw : Upd (fun a j => Nat.beq a 102 && Nat.beq j 34) τ (wI τ 102 34 (nI (lw C k + dg C x k))) := Upd.refl.wI rfl
      refine fin _ true (hu.wI rfl) ?_ (fun j hj h hh => ?_) (fun p hp q hq => ?_) ⟨fun p hp q hq => ?_, ?_⟩ (fun j hj => ?_) (fun y hy => ?_)
      · rw [uw.2.1 102 33 rfl]; exact h33
      · rw [uw.2.1 113 _ rfl]; exact htl j hj h hh
      · rw [uw.2.1 114 _ rfl]; exact hhr p hp q hq
      · rw [uw.2.1 105 _ rfl]; exact hg.1 p hp q hq
      · rw [uw.2.1 105 _ rfl]; exact hg.2
      · rw [uw.2.1 112 _ rfl]; exact hho j hj
      · rw [sn, if_pos ⟨ef, e1⟩] at hy
        have := Option.some.inj hy
        rw [mI_w, if_pos ⟨rfl, rfl⟩, this]
    · rw [if_neg e1, sn, if_neg (fun h => e1 h.2)]
      exact fin τ _ hu h33 htl hhr hg hho (fun y hy => by
        rw [sn, if_neg (fun h => e1 h.2)] at hy
        exact h34 y hy)
/-- fitting -/
theorem f240N (hT : hasT σ c) (hM : mC σ c C) (hO : OkC C) (hH : OkH C) {o : Option Nat} {k : Nat} (ho : ∀ i, o = some i → i < 2 ^ 31) (hok : ∀ i, o = some i → k < nHe C) (hk31 : k < 2 ^ 31) : ∃ τ, f240 102 (oiI o) (nI k) σ = some (bo (oiF C o (cds C)).isSome, τ) ∧ ftI σ C o k (cds C) τ := by
  have hn := hO.2.2.2.2.2.2.2.2.2.2.2.1
  have h6 := hO.1
  have hcb := cds_b hO
  have u0 : Upd Pft σ (wI σ 102 33 0) := Upd.refl.wI rfl
  have hT0 := u0.hasT hT
  have hM0 := mC_lo u0 loFt hT.2.1.1 hM
  have A1 : f240 102 (oiI o) (nI k) σ = f240_42 102 (oiI o) (nI k) 0 (nI (cds C)) (wI σ 102 33 0) := by
    unfold f240
    simp only [acM hT.1, Option.bind_some]
    rw [← prS_cds hn]
    refine lp (fun m j => f240_13 m 102 (oiI o) (nI k) 0 (nI (prS C j)) (nI j) (wI σ 102 33 0)) (nHe C) (fun j hj m r hn' => ?_) (fun m => ?_) (nHe C) 1100 0 (by omega) (by omega)
    · have hn' : f240_13 m 102 (oiI o) (nI k) 0 (nI (prS C (j + 1))) (nI (j + 1)) (wI σ 102 33 0) = r := hn'
      show f240_13 (m + 1) _ _ _ _ _ _ _ = _
      rw [f240_13]
      rw [prS] at hn'
      simp only [acM hT0.1, acG hT0, acT0 hT0.2.1, Option.bind_some, hM0.1.2.2.2.2.2.1, f238N hT0 hM0 hO hj, pk_mul, nI_1]
      rw [if_neg (nI_ge hj (by omega))]
      exact hn'
    · show f240_13 (m + 1) _ _ _ _ _ _ _ = _
      rw [f240_13]
      simp only [acG hT0, acT0 hT0.2.1, Option.bind_some, hM0.1.2.2.2.2.2.1]
      rw [if_pos (nI_le (by omega) (by omega))]
  have A2 : ∃ τ, f240_42 102 (oiI o) (nI k) 0 (nI (cds C)) (wI σ 102 33 0) = f240_66 102 (oiI o) (nI k) 0 (nI (cds C)) τ ∧ Upd P113 (wI σ 102 33 0) τ ∧ ∀ k, k < 21 → mI τ 113 k = 0 := by
    unfold f240_42
    refine lpI (fun m j τ => f240_45 m 102 (oiI o) (nI k) 0 (nI (cds C)) (nI j) τ) 21 (fun j τ => Upd P113 (wI σ 102 33 0) τ ∧ ∀ k, k < j → mI τ 113 k = 0) (fun w => ∃ τ, w = f240_66 102 (oiI o) (nI k) 0 (nI (cds C)) τ ∧ Upd P113 (wI σ 102 33 0) τ ∧ ∀ k, k < 21 → mI τ 113 k = 0) (fun j hj m τ hI => ?_) (fun m τ hI => ?_) 21 1100 0 _ rfl (by omega) ⟨Upd.refl, fun k hk => by omega⟩
    · obtain ⟨hu, hz⟩ := hI
      refine ⟨wI τ 113 j 0, ⟨hu.wI rfl, fun k hk => ?_⟩, ?_⟩
      · rw [mI_w]
        by_cases e : k = j
        · rw [if_pos ⟨rfl, e⟩]
        · rw [if_neg (fun h => e h.2)]
          exact hz k (by omega)
      · show f240_45 (m + 1) _ _ _ _ _ _ _ = f240_45 m _ _ _ _ _ _ _
        rw [f240_45, if_neg (show ¬ (21 : Int32) ≤ nI j from nI_ge (b := 21) hj (by omega))]
        simp only [acM (hu.sh hT0.1), Option.bind_some, hj, nI_1]
    · obtain ⟨hu, hz⟩ := hI
      refine ⟨τ, ?_, hu, hz⟩
      show f240_45 (m + 1) _ _ _ _ _ _ _ = _
      rw [f240_45, if_pos (show (21 : Int32) ≤ nI 21 by decide)]
  obtain ⟨τ2, b1, b2, b3⟩ := A2
  have u2 := u0.trans (ft_113 b2)
  have A3 : ∃ τ, f240_66 102 (oiI o) (nI k) 0 (nI (cds C)) τ2 = f240_90 102 (oiI o) (nI k) 0 (nI (cds C)) τ ∧ Upd P114 τ2 τ ∧ ∀ k, k < 36 → mI τ 114 k = 0 := by
    unfold f240_66
    refine lpI (fun m j τ => f240_69 m 102 (oiI o) (nI k) 0 (nI (cds C)) (nI j) τ) 36 (fun j τ => Upd P114 τ2 τ ∧ ∀ k, k < j → mI τ 114 k = 0) (fun w => ∃ τ, w = f240_90 102 (oiI o) (nI k) 0 (nI (cds C)) τ ∧ Upd P114 τ2 τ ∧ ∀ k, k < 36 → mI τ 114 k = 0) (fun j hj m τ hI => ?_) (fun m τ hI => ?_) 36 1100 0 _ rfl (by omega) ⟨Upd.refl, fun k hk => by omega⟩
    · obtain ⟨hu, hz⟩ := hI
      refine ⟨wI τ 114 j 0, ⟨hu.wI rfl, fun k hk => ?_⟩, ?_⟩
      · rw [mI_w]
        by_cases e : k = j
        · rw [if_pos ⟨rfl, e⟩]
        · rw [if_neg (fun h => e h.2)]
          exact hz k (by omega)
      · show f240_69 (m + 1) _ _ _ _ _ _ _ = f240_69 m _ _ _ _ _ _ _
        rw [f240_69, if_neg (show ¬ (36 : Int32) ≤ nI j from nI_ge (b := 36) hj (by omega))]
        simp only [acM (hu.sh (u2.sh hT.1)), Option.bind_some, hj, nI_1]
    · obtain ⟨hu, hz⟩ := hI
      refine ⟨τ, ?_, hu, hz⟩
      show f240_69 (m + 1) _ _ _ _ _ _ _ = _
      rw [f240_69, if_pos (show (36 : Int32) ≤ nI 36 by decide)]
  obtain ⟨τ3, d1, d2, d3⟩ := A3
  have u3 := u2.trans (ft_114 d2)
  have hI0 : ftI σ C o k 0 τ3 := by
    refine ⟨u3, ?_, fun j hj h hh => ?_, fun p hp q hq => ?_, fun y hy => ?_⟩
    · rw [d2.2.1 102 33 rfl, b2.2.1 102 33 rfl, mI_w, if_pos ⟨rfl, rfl⟩]
      rfl
    · rw [d2.2.1 113 _ rfl, b3 _ (by omega)]
      rfl
    · rw [d3 _ (by omega)]
      rfl
    · cases o <;> cases hy
  rw [A1, b1, d1]
  unfold f240_90
  have hf0 : (0 : Int32) = bo (oiF C o 0).isSome := by cases o <;> rfl
  have hz : f240_93 1100 102 (oiI o) (nI k) 0 (nI (cds C)) 0 τ3 = f240_93 1100 102 (oiI o) (nI k) (bo (oiF C o 0).isSome) (nI (cds C)) (nI 0) τ3 := by rw [← hf0, nI_0]
  rw [hz]
  refine lpI (fun m j τ => f240_93 m 102 (oiI o) (nI k) (bo (oiF C o j).isSome) (nI (cds C)) (nI j) τ) (cds C) (fun j τ => ftI σ C o k j τ) (fun w => ∃ τ, w = some (bo (oiF C o (cds C)).isSome, τ) ∧ ftI σ C o k (cds C) τ) (fun j hj m τ hI => ?_) (fun m τ hI => ?_) (cds C) 1100 0 τ3 (by omega) (by omega) hI0
  · have hT' := hI.1.hasT hT
    have hM' := mC_lo hI.1 loFt hT.2.1.1 hM
    obtain ⟨υ, v1, v2, v3⟩ := f189N hT' hM' hO
    have uv := hI.1.trans (ft_5 v2)
    have hTv := uv.hasT hT
    have hMv := mC_lo uv loFt hT.2.1.1 hM
    obtain ⟨ω, w1, w2, w3, w4⟩ := f240_119N (σ := σ) (f240_93 m) hT hM hO hH (x := j) (by omega) (oiI o) (nI k) (bo (oiF C o j).isSome) (nI (cds C)) (nI j) (nHe C) 1100 j υ (Nat.le_refl _) (by omega) (fun i hi => by rw [wg_last hn hi, Nat.div_one]) (by omega) uv v3.2.2.1 (fun p hp q hq => ⟨fun i h1 h2 => by omega, fun _ => v3.2.1 p hp q hq⟩) (fun i h1 h2 => by omega)
    have hIω : ftI σ C o k j ω := by
      obtain ⟨x1, x2, x3, x4, x5⟩ := hI
      refine ⟨uv.trans (ft_512 w2), ?_, fun i hi h hh => ?_, fun p hp q hq => ?_, fun y hy => ?_⟩
      · rw [w2.2.1 102 33 rfl, v2.2.1 102 33 rfl]; exact x2
      · rw [w2.2.1 113 _ rfl, v2.2.1 113 _ rfl]; exact x3 i hi h hh
      · rw [w2.2.1 114 _ rfl, v2.2.1 114 _ rfl]; exact x4 p hp q hq
      · rw [w2.2.1 102 34 rfl, v2.2.1 102 34 rfl]; exact x5 y hy
    obtain ⟨ξ, y1, y2⟩ := f240_203N (f240_93 m) hT hM hO ho hok hk31 (by omega) hIω w3 w4
    refine ⟨ξ, y2, ?_⟩
    show f240_93 (m + 1) _ _ _ _ _ _ _ = f240_93 m _ _ _ _ _ _ _
    rw [f240_93, if_neg (nI_ge hj (by omega))]
    simp only [acM hT'.1, Option.bind_some, v1, acG hTv, acT0 hTv.2.1, hMv.1.2.2.2.2.2.1]
    rw [w1, y1]
  · refine ⟨τ, ?_, hI⟩
    show f240_93 (m + 1) _ _ _ _ _ _ _ = _
    rw [f240_93, if_pos (nI_le (by omega) (by omega))]
    unfold f240_368
    rw [bo_Z]
end REF
