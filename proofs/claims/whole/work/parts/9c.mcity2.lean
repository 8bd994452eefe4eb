/-! THE TEXT: city of the reference, its end -/
section REF
variable {σ : xM} {n N c : Nat} {f : Nat → Int32} {C : Cty}
theorem f183_103N (hT : hasT σ c) (hM : mC σ c C) : ∃ τ, f183_103 1100 102 0 σ = some (nI (pe C), gd (wI (wI τ 102 20 0) 102 21 0) 0) ∧ Upd P104 σ τ ∧ ∀ k, k < 47 → mI τ 104 k = mI σ 105 k := by
  have hcc := hT.2.1.1
  refine lpI (fun m j τ => f183_103 m 102 (nI j) τ) 47 (fun j τ => Upd P104 σ τ ∧ ∀ k, k < j → mI τ 104 k = mI σ 105 k) (fun o => ∃ τ, o = some (nI (pe C), gd (wI (wI τ 102 20 0) 102 21 0) 0) ∧ Upd P104 σ τ ∧ ∀ k, k < 47 → mI τ 104 k = mI σ 105 k) (fun j hj m τ hI => ?_) (fun m τ hI => ?_) 47 1100 0 σ rfl (by omega) ⟨Upd.refl, fun k hk => by omega⟩
  · obtain ⟨hu, hz⟩ := hI
    have hS' := hu.sh hT.1
    refine ⟨wI τ 104 j (mI τ 105 j), ⟨hu.wI rfl, fun k hk => ?_⟩, ?_⟩
    · rw [mI_w]
      by_cases e : k = j
      · rw [if_pos ⟨rfl, e⟩, hu.2.1 105 j rfl, e]
      · rw [if_neg (fun h => e h.2)]
        exact hz k (by omega)
    · show f183_103 (m + 1) _ _ _ = f183_103 m _ _ _
      rw [f183_103, if_neg (show ¬ (47 : Int32) ≤ nI j from nI_ge (b := 47) hj (by omega))]
      simp only [acM hS', Option.bind_some, hj, nI_1]
  · obtain ⟨hu, hz⟩ := hI
    refine ⟨τ, ?_, hu, hz⟩
    show f183_103 (m + 1) _ _ _ = _
    rw [f183_103, if_pos (show (47 : Int32) ≤ nI 47 by decide)]
    have hT' := hu.hasT hT
    have hS1 : Sh (wI τ 102 20 0) := hT'.1
    have hT2 : hasT (wI (wI τ 102 20 0) 102 21 0) c := hT'
    have e2 : mI (wI (wI τ 102 20 0) 102 21 0) c 2 = nI (pe C) := by
      rw [mI_w, if_neg (by omega), mI_w, if_neg (by omega), hu.2.1 c 2 (beqF (by omega))]
      exact hM.1.2.2.1
    have g3 : gR (wI (wI τ 102 20 0) 102 21 0) 102 9 3 = some c := gR_ok (sh_n hT2.1 (by decide)) (sh_k hT2.1 (by decide)) hT2.2.2
    unfold f183_127
    simp only [acM hT'.1, acM hS1, Option.bind_some, g3, acT0 hT2.2.1, acM hT2.1, e2, f154N hT2.1]
theorem dB_t {D : Drf} (hO : OkD D) (h : 0 < pe (dC D)) : dB D = true := by
  cases e : dB D
  · have := (hO.2.2.2.2.2 e).1
    omega
  · rfl
/-- city: a fault, or a city -/
theorem m183Y (hS : Sh σ) (ht : mTp σ n f) (hf : ∀ i, i < n → okB (f i)) (hN : N ≤ n) : match rTxt f N with
    | .inl x => ∃ τ, f183 102 (nI N) σ = some (-1, τ) ∧ Kp (mN σ) σ τ ∧ mI τ 102 0 = 0 ∧ mI τ 102 1 = 4 ∧ mI τ 102 2 = nI x.2 ∧ mI τ 102 12 = nI x.1 ∧ mI τ 102 6 = 0 ∧ mN τ = mN σ + 11 ∧ mU τ = mU σ + 98
    | .inr D => ∃ τ, f183 102 (nI N) σ = some (nI (pe (dC D)), τ) ∧ (mN τ = mN σ + 11 ∧ mU τ = mU σ + 98) ∧ Old 102 σ τ ∧ QM τ (dC D) (told (dC D)) ∧ (∀ ps, mP τ (pe (dC D)) ps 0) ∧ (∀ im, mIm τ (pe (dC D)) im 0) ∧ mI τ 102 0 = 0 ∧ mI τ 102 1 = 0 ∧ mI τ 102 2 = -1 ∧ mI τ 102 12 = 0 ∧ mI τ 102 6 = 0 := by
  have hn9 := ht.1
  have h115 := hS.1
  obtain ⟨τ, t1, t2, t3, t4, t5, t6, t7⟩ := m183a hS ht hf hN
  have okr := rAll_ok (f := f) (N := N) (N + 1) D0 0 D0_ok (by omega) (by omega)
  have main := f173_2N (N + 1) 1100 D0 0 τ t2 D0_ok (by omega) (by omega)
  rw [show f173_2 1100 102 1 τ = f173 102 τ from rfl, show rAll f N (N + 1) D0 0 = rTxt f N from rfl] at main
  rw [show rAll f N (N + 1) D0 0 = rTxt f N from rfl] at okr
  generalize hc : mN σ = c at h115 t2 t3 t6 main
  have kp : ∀ υ, Upd (Pmr c) τ υ → Kp c τ υ := fun υ hu => Kp_upd hu t3.1 (fun a k h1 h2 => by
    unfold Pmr P15
    rw [Pfl_no k h2, beqF h2, Pce_no k (by omega)]
    rfl) (fun k hk => by
    unfold Pmr P15 Pfl
    rw [anyF (fun b hb => by simp at hb; omega), beqF (show k ≠ 15 by omega), Pce_no k (by omega)]
    rfl)
  have z : ∀ υ k, Upd (Pmr c) τ υ → k = 0 ∨ k = 6 → mI υ 102 k = mI τ 102 k := fun υ k hu hk => hu.2.1 102 k (by
    unfold Pmr P15 Pfl
    rw [anyF (fun b hb => by simp at hb; omega), beqF (show k ≠ 15 by omega), Pce_no k (by omega)]
    rfl)
  cases er : rTxt f N with
  | inl x =>
    rw [er] at main
    obtain ⟨υ, v1, v2, v3, v4, v5⟩ := main
    have hfl := okr.1 x er
    have hSv := v5.1
    have hx0 : ¬ nI x.1 ≤ 0 := nI_ge (a := 0) (b := x.1) (by have := hfl.1; omega) (by have := hfl.2; omega)
    have hS1 : Sh (wI υ 102 1 4) := hSv
    have e13 : mI (wI υ 102 1 4) 102 13 = nI x.2 := by rw [mI_w, if_neg (by omega)]; exact v4
    refine ⟨wI (wI υ 102 1 4) 102 2 (nI x.2), ?_, ?_, ?_, ?_, ?_, ?_, ?_, v2.1.2.2.2.1.trans t6, v2.1.2.2.2.2.trans t7⟩
    · rw [t1, v1, Option.bind_some]
      unfold rst
      simp only [acM hSv, Option.bind_some, v3]
      rw [if_neg hx0]
      simp only [acM hS1, Option.bind_some, e13]
    · refine t3.trans ((kp υ v2).trans (Kp_upd (P := fun a k => Nat.beq a 102 && Nat.ble k 2) ((Upd.refl.wI rfl).wI rfl) (kp υ v2).1 (fun a k _ h => by show (Nat.beq a 102 && Nat.ble k 2) = false; rw [beqF h]; rfl) (fun k hk => ?_)))
      show (Nat.beq 102 102 && Nat.ble k 2) = false
      have : Nat.ble k 2 = false := by rw [Bool.eq_false_iff]; intro h; rw [Nat.ble_eq] at h; omega
      rw [this]; rfl
    · rw [mI_w, if_neg (by omega), mI_w, if_neg (by omega), z υ 0 v2 (Or.inl rfl)]; exact t5
    · rw [mI_w, if_neg (by omega), mI_w, if_pos ⟨rfl, rfl⟩]
    · rw [mI_w, if_pos ⟨rfl, rfl⟩]
    · rw [mI_w, if_neg (by omega), mI_w, if_neg (by omega)]; exact v3
    · rw [mI_w, if_neg (by omega), mI_w, if_neg (by omega), z υ 6 v2 (Or.inr rfl)]; exact t4
  | inr D =>
    rw [er] at main
    obtain ⟨υ, v1, v2, v3, v4, v5⟩ := main
    obtain ⟨hO, hp0⟩ := okr.2 D er
    have hSv := v4.1
    rw [dh_t (dB_t hO hp0)] at v5
    have hcc := v4.2.1.1
    have kυ := t3.trans (kp υ v2)
    have hTw : hasT (wR υ 102 3 c) c := ⟨Sh_wR (Or.inr rfl) hSv, ShT_wR v4.2.1, by rw [mR_w, if_pos ⟨rfl, rfl⟩]⟩
    have hMw : mC (wR υ 102 3 c) c (dC D) := v5
    have pα : pR υ 102 9 3 c = some (wR υ 102 3 c) := pR_ok (sh_n hSv (by decide)) (sh_k hSv (by decide))
    have iw : ∀ a k, mI (wR υ 102 3 c) a k = mI υ a k := fun _ _ => rfl
    have ow : Old 102 σ (wR υ 102 3 c) := (kυ.old h115).trans (fun a ha => ⟨rfl, rfl, fun _ => rfl, fun _ => rfl, fun k => by rw [mR_w, if_neg (by omega)]⟩)
    have nw : mN (wR υ 102 3 c) = c + 11 := v2.1.2.2.2.1.trans t6
    have uw : mU (wR υ 102 3 c) = mU σ + 98 := v2.1.2.2.2.2.trans t7
    have e0 : f183 102 (nI N) σ = (f189 102 (wR υ 102 3 c)).bind fun y => f183_103 1100 102 0 y := by
      rw [t1, v1, Option.bind_some]
      unfold rst
      simp only [acM hSv, Option.bind_some, v3]
      rw [if_pos (show (0 : Int32) ≤ 0 by decide), acGr v4, Option.bind_some, pα, Option.bind_some]
      simp only [acM hTw.1, Option.bind_some]
    generalize wR υ 102 3 c = α at hTw hMw iw ow nw uw e0
    obtain ⟨β, b1, b2, b3⟩ := f189N hTw hMw hO.1
    have hTb := b2.hasT hTw
    have hMb : mC β c (dC D) := mC_upd b2 (fun i k _ => beqF (by omega)) hMw
    obtain ⟨γ, g1, g2, g3⟩ := f183_103N hTb hMb
    have hTg := g2.hasT hTb
    have hMg : mC γ c (dC D) := mC_upd g2 (fun i k _ => beqF (by omega)) hMb
    have u3 : Upd (fun a _ => Nat.beq a 102) γ (gd (wI (wI γ 102 20 0) 102 21 0) 0) := (((Upd.refl.wI rfl).wI rfl).wI rfl).wI rfl
    have i2 : ∀ k, mI γ 102 k = mI υ 102 k := fun k => by rw [g2.2.1 102 k rfl, b2.2.1 102 k rfl]; exact iw 102 k
    have j : ∀ k, mI (gd (wI (wI γ 102 20 0) 102 21 0) 0) 102 k = if k = 2 then -1 else if k = 1 then 0 else if k = 21 then 0 else if k = 20 then 0 else mI υ 102 k := fun k => by
      unfold gd
      rw [mI_w, mI_w, mI_w, mI_w, i2]
      simp only [true_and]
    have row : mrow (mI γ 104) (pe (dC D)) (told (dC D)) := by
      obtain ⟨r1, r2, r3, r4, r5, r6, r7⟩ := b3
      have h6 := hO.1.1
      refine ⟨fun p hp => (g3 p (by omega)).trans (r1 p hp), fun p hp q hq => (g3 _ (by omega)).trans (r2 p hp q hq), (g3 _ (by omega)).trans r3, (g3 _ (by omega)).trans r4, (g3 _ (by omega)).trans r5, (g3 _ (by omega)).trans r6, (g3 _ (by omega)).trans r7⟩
    refine ⟨_, ?_, ⟨?_, ?_⟩, ?_, ⟨u3.sh hTg.1, told_ok hO.1, row_upd u3 (fun k => rfl) row, Or.inr ⟨hp0, hO.1, c, u3.hasT hTg, mC_upd u3 (fun i k _ => beqF (by omega)) hMg⟩⟩, fun ps => ⟨by omega, ?_, fun i hi => by omega⟩, fun im => ⟨by omega, ?_, fun i hi => by omega⟩, ?_, ?_, ?_, ?_, ?_⟩
    · rw [e0, b1, Option.bind_some, g1]
    · rw [u3.1.2.2.2.1, g2.1.2.2.2.1, b2.1.2.2.2.1]; exact nw
    · rw [u3.1.2.2.2.2, g2.1.2.2.2.2, b2.1.2.2.2.2]; exact uw
    · exact ow.trans ((Upd_Old b2 (fun a k ha => beqF (by omega))).trans ((Upd_Old g2 (fun a k ha => beqF (by omega))).trans (Upd_Old u3 (fun a k ha => beqF (by omega)))))
    · rw [j]; rfl
    · rw [j]; rfl
    · rw [j, if_neg (by omega), if_neg (by omega), if_neg (by omega), if_neg (by omega), z υ 0 v2 (Or.inl rfl)]; exact t5
    · rw [j]; rfl
    · rw [j]; rfl
    · rw [j, if_neg (by omega), if_neg (by omega), if_neg (by omega), if_neg (by omega)]; exact v3
    · rw [j, if_neg (by omega), if_neg (by omega), if_neg (by omega), if_neg (by omega), z υ 6 v2 (Or.inr rfl)]; exact t4
end REF
