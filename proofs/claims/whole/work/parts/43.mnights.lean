/-! NIGHTS BY DRAWS: the reference -/
def leaC (s : Sta) (D : Nat) (b : Bool) : Sta := (hasB s D, rg s, dif (lv s) D, ct s + catT s D, hr s, if b then ng s + 1 else ng s, sd s)
theorem leaC_f (s : Sta) (D : Nat) : leaC s D false = lea s D := rfl
/-- what dieAll writes -/
def Pda : Nat → Nat → Bool := fun a k => Nat.beq a 105 || (Nat.beq a 108 || (Nat.beq a 109 || (Nat.beq a 102 && Nat.beq k 24)))
theorem loDa : lo Pda := fun a k ha => by
  unfold Pda
  rw [beqF (show a ≠ 102 by omega), beqF (show a ≠ 108 by omega), beqF (show a ≠ 109 by omega), beqF (show a ≠ 105 by omega)]
  rfl
theorem da_8 {σ τ : xM} (h : Upd P108 σ τ) : Upd Pda σ τ := h.mono (fun a k hq => by
  unfold Pda at hq
  simp only [Bool.or_eq_false_iff] at hq
  exact hq.2.1)
theorem da_dy {σ τ : xM} (h : Upd Pdy σ τ) : Upd Pda σ τ := h.mono (fun a k hq => by
  unfold Pda at hq
  simp only [Bool.or_eq_false_iff] at hq
  unfold Pdy
  rw [hq.2.2.1, hq.2.2.2]
  rfl)
theorem da_Q {σ τ : xM} (h : Upd Pda σ τ) : Upd PmQ σ τ := h.mono (fun a k hq => by
  unfold PmQ at hq
  rw [Bool.or_eq_false_iff] at hq
  have g : ∀ b, b ∈ [105, 108, 109, 110, 111, 112, 113, 114] → a ≠ b := fun b hb h => by
    have := List.any_eq_false.mp hq.1 b hb
    rw [h] at this
    simp at this
  unfold Pda
  rw [beqF (g 105 (by simp)), beqF (g 108 (by simp)), beqF (g 109 (by simp))]
  rcases Bool.and_eq_false_iff.mp hq.2 with h2 | h2
  · rw [h2]; rfl
  · have := List.any_eq_false.mp h2 24 (by simp)
    rw [beqF (show k ≠ 24 by simpa using this)]
    simp)
section REF
variable {σ : xM} {c n : Nat} {s : Sta} {C : Cty}
theorem f196N (hA : AM σ c C s) {D : Nat} (hD : D < 64) (hsub : sub D (lv s)) (b : Bool) : ∃ τ, f196 102 (nI D) (bo b) σ = some τ ∧ Upd Pda σ τ ∧ mrow (mI τ 105) (pe C) (leaC s D b) := by
  obtain ⟨hT, hM, hO, hx, hk⟩ := id hA
  have h6 := hk.1
  have hc := hT.2.1.1
  have hA1 : AM (hsW σ (pe C) s) c C s := AM_upd hsW_upd lo108 (fun _ => rfl) hA
  obtain ⟨τ1, t1, t2, t3, t4⟩ := f195A hA1 hsW_H hD hsub
  have hA2 := AM_dy t2 hA1
  obtain ⟨hT2, hM2, -, hx2, -⟩ := id hA2
  have u2 : Upd Pda σ τ1 := (da_8 hsW_upd).trans (da_dy t2)
  let W := fun j => wr τ1 105 (mI τ1 109) j
  have uW : ∀ j, Upd Pda σ (W j) := fun j => u2.wr (fun _ _ => rfl)
  have hTW : ∀ j, hasT (W j) c := fun j => (uW j).hasT hT
  have eW : ∀ j, mI (W j) c 2 = nI (pe C) := fun j => ((uW j).2.1 c 2 (loDa c 2 hc)).trans hM.1.2.2.1
  have e9 : ∀ j k, mI (W j) 109 k = mI τ1 109 k := fun j k => by
    show mI (wr τ1 105 (mI τ1 109) j) 109 k = _
    rw [mI_wr, if_neg (fun h => absurd h.1 (by decide))]
  have e5 : ∀ k, pe C ≤ k → mI (W (pe C)) 105 k = mI τ1 105 k := fun k hk => by
    show mI (wr τ1 105 (mI τ1 109) (pe C)) 105 k = _
    rw [mI_wr, if_neg (by omega)]
  have e24 : mI (W (pe C)) 102 24 = nI (catT s D) := by
    show mI (wr τ1 105 (mI τ1 109) (pe C)) 102 24 = _
    rw [mI_wr, if_neg (fun h => absurd h.1 (by decide))]
    exact t4
  let V := wI (wI (W (pe C)) 105 43 (nI (ct s + catT s D))) 105 42 (nI (dif (lv s) D))
  let U := if b then wI V 105 45 (nI (ng s + 1)) else V
  have hSW := (hTW (pe C)).1
  have hf : f196 102 (nI D) (bo b) σ = some U := by
    unfold f196
    simp only [acM hT.1, Option.bind_some, f193N hT hM.1.2.2.1 hx hk, acM hA1.1.1, t1]
    refine lp (fun m j => f196_11 m 102 (nI D) (bo b) (nI j) (W j)) (pe C) (fun j hj m r hn => ?_) (fun m => ?_) (pe C) 1100 0 (by omega) (by omega)
    · have hn : f196_11 m 102 (nI D) (bo b) (nI (j + 1)) (wI (W j) 105 j (mI τ1 109 j)) = r := hn
      show f196_11 (m + 1) _ _ _ _ _ = _
      rw [f196_11]
      simp only [acM (hTW j).1, acG (hTW j), acT0 (hTW j).2.1, Option.bind_some, eW j, e9, show j < 6 by omega, show j < 47 by omega, nI_1]
      rw [if_neg (nI_ge hj (by omega))]
      exact hn
    · show f196_11 (m + 1) _ _ _ _ _ = _
      rw [f196_11]
      simp only [acG (hTW (pe C)), acT0 (hTW (pe C)).2.1, Option.bind_some, eW]
      rw [if_pos (nI_le (by omega) (by omega))]
      unfold f196_40 f196_82
      simp only [acM hSW, Option.bind_some, litM, show 43 < 47 by omega, e5 43 (by omega), hx2.2.2.2.1, e24, nI_add]
      have S1 : Sh (wI (W (pe C)) 105 43 (nI (ct s + catT s D))) := hSW
      simp only [acM S1, Option.bind_some, show 42 < 47 by omega, mI_w, show ¬ (42 = 43) by omega, and_false, if_false, e5 42 (by omega), hx2.2.2.1, difN _ hk.lv64 _ hD]
      have S2 : Sh V := hSW
      cases b
      · rfl
      · rw [if_neg (by decide)]
        show ((gR V 102 9 17).bind fun r8 => (aI V r8 (nI 45)).bind fun v9 => (tI V r8 (nI 45) (v9 + 1)).bind fun σ10 => some σ10) = some (wI V 105 45 (nI (ng s + 1)))
        have e45 : mI V 105 45 = nI (ng s) := by
          show mI (wI (wI (W (pe C)) 105 43 _) 105 42 _) 105 45 = _
          rw [mI_w, if_neg (by omega), mI_w, if_neg (by omega), e5 45 (by omega)]
          exact hx2.2.2.2.2.2.1
        simp only [acM S2, Option.bind_some, show 45 < 47 by omega, e45, nI_1]
  have uV : Upd Pda σ V := ((uW (pe C)).wI rfl).wI rfl
  have hU : Upd Pda σ U := by
    show Upd Pda σ (if b then _ else _)
    cases b
    · exact uV
    · exact uV.wI rfl
  refine ⟨U, hf, hU, ?_⟩
  have hV : ∀ k, k ≠ 42 → k ≠ 43 → mI V 105 k = mI (W (pe C)) 105 k := fun k h1 h2 => by
    show mI (wI (wI (W (pe C)) 105 43 _) 105 42 _) 105 k = _
    rw [mI_w, if_neg (by omega), mI_w, if_neg (by omega)]
  have hU2 : ∀ k, k ≠ 45 → mI U 105 k = mI V 105 k := fun k h1 => by
    show mI (if b then _ else _) 105 k = _
    cases b
    · rfl
    · show mI (wI V 105 45 _) 105 k = _
      rw [mI_w, if_neg (by omega)]
  refine ⟨fun p hp => ?_, fun p hp q hq => ?_, ?_, ?_, ?_, ?_, ?_⟩
  · rw [hU2 p (by omega), hV p (by omega) (by omega)]
    show mI (wr τ1 105 (mI τ1 109) (pe C)) 105 p = _
    rw [mI_wr, if_pos ⟨rfl, hp⟩]
    exact t3 p hp
  · rw [hU2 _ (by omega), hV _ (by omega) (by omega), e5 _ (by omega)]
    exact hx2.2.1 p hp q hq
  · rw [hU2 _ (by omega)]
    show mI (wI (wI (W (pe C)) 105 43 _) 105 42 _) 105 42 = _
    rw [mI_w, if_pos ⟨rfl, rfl⟩]
    rfl
  · rw [hU2 _ (by omega)]
    show mI (wI (wI (W (pe C)) 105 43 _) 105 42 _) 105 43 = _
    rw [mI_w, if_neg (by omega), mI_w, if_pos ⟨rfl, rfl⟩]
    rfl
  · rw [hU2 _ (by omega), hV _ (by omega) (by omega), e5 _ (by omega)]
    exact hx2.2.2.2.2.1
  · show mI (if b then _ else _) 105 45 = nI (if b then _ else _)
    cases b
    · show mI V 105 45 = nI (ng s)
      rw [hV _ (by omega) (by omega), e5 _ (by omega)]
      exact hx2.2.2.2.2.2.1
    · show mI (wI V 105 45 _) 105 45 = nI (ng s + 1)
      rw [mI_w, if_pos ⟨rfl, rfl⟩]
  · rw [hU2 _ (by omega), hV _ (by omega) (by omega), e5 _ (by omega)]
    exact hx2.2.2.2.2.2.2
theorem row_ssd {x : Nat} (h : mrow (mI σ 105) n s) (hn : n ≤ 6) : mrow (mI (wI σ 105 46 (nI x)) 105) n (ssd s x) := by
  obtain ⟨c1, c2, c3, c4, c5, c6, c7⟩ := h
  refine ⟨fun p hp => ?_, fun p hp q hq => ?_, ?_, ?_, ?_, ?_, ?_⟩
  · rw [mI_w, if_neg (by omega)]; exact c1 p hp
  · rw [mI_w, if_neg (by omega)]; exact c2 p hp q hq
  · rw [mI_w, if_neg (by omega)]; exact c3
  · rw [mI_w, if_neg (by omega)]; exact c4
  · rw [mI_w, if_neg (by omega)]; exact c5
  · rw [mI_w, if_neg (by omega)]; exact c6
  · rw [mI_w, if_pos ⟨rfl, rfl⟩]; rfl
theorem nsd_more (hk : Ok n s) : nsd C s 6 = nsd C s n := by
  have : ∀ j, n ≤ j → nsd C s j = nsd C s n := by
    intro j
    induction j with
    | zero => intro h; rw [show n = 0 by omega]
    | succ j ih =>
      intro h
      by_cases e : n = j + 1
      · rw [e]
      · rw [nsd, tb_lt hk.2.1 (show n ≤ j by omega)]
        exact ih (by omega)
  exact this 6 hk.1
theorem rJ_drw {x : Nat} (hx : x ≤ 65536) : rJ ((75 * (nI x).toInt64) + 74) 65537 = some (lN (drw x)) := by
  rw [nI_l (by omega), show (75 : Int64) = lN 75 from rfl, show (74 : Int64) = lN 74 from rfl, lN_mul, lN_add]
  have h := rJN (x := 75 * x + 74) (y := 65537) (by omega) (by omega) (by omega)
  exact h
/-- aNight -/
theorem f255N (hA : AM σ c C s) (b : Bool) : ∃ τ, f255 102 (bo b) σ = some (nI (ngD C s), τ) ∧ Upd Pda σ τ ∧ mrow (mI τ 105) (pe C) (leaC (ssd s (nsd C s 6).1) (ngD C s) b) := by
  obtain ⟨hT, hM, hO, hx, hk⟩ := id hA
  have h6 := hk.1
  unfold f255 ngD
  rw [nsd_more (C := C) hk]
  refine lpI (fun m j τ => f255_4 m 102 (bo b) (nI (nsd C s j).2) (nI j) τ) (pe C) (fun j τ => Upd P105 σ τ ∧ mrow (mI τ 105) (pe C) (ssd s (nsd C s j).1)) (fun o => ∃ τ, o = some (nI (nsd C s (pe C)).2, τ) ∧ Upd Pda σ τ ∧ mrow (mI τ 105) (pe C) (leaC (ssd s (nsd C s (pe C)).1) (nsd C s (pe C)).2 b)) (fun j hj m τ hI => ?_) (fun m τ hI => ?_) (pe C) 1100 0 σ (by omega) (by omega) ⟨Upd.refl, hx⟩
  · obtain ⟨hu, hx'⟩ := hI
    have hj6 : j < 6 := by omega
    obtain ⟨n1, n2, n3⟩ := nsd_ok (C := C) (s := s) hk.2.2.2.2.2.2.2.1 j (by omega)
    have hk' := ssd_ok (x := (nsd C s j).1) hk n1
    have hT' := hu.hasT hT
    have hM' := mC_lo hu lo105 hT.2.1.1 hM
    show ∃ τ', _ ∧ f255_4 (m + 1) _ _ _ _ _ = f255_4 m _ _ _ _ _
    have hal' : f190 102 (nI j) τ = some (bo (tb (lv s) j), τ) := f190N hT'.1 hx' hk' hj6
    cases e1 : tb (lv s) j
    · have e2 : nsd C s (j + 1) = nsd C s j := by
        rw [nsd, e1]
        rfl
      refine ⟨τ, ⟨hu, by rw [e2]; exact hx'⟩, ?_⟩
      rw [f255_4, e2]
      simp only [acM hT'.1, acG hT', acT0 hT'.2.1, Option.bind_some, hM'.1.2.2.1, hal', e1, bo_0, f255_86, nI_1]
      rw [if_neg (nI_ge hj (by omega)), if_pos trivial]
    · have e2 : nsd C s (j + 1) = (drw (nsd C s j).1, if drw (nsd C s j).1 % 100 < dz C j then (nsd C s j).2 ||| 2 ^ j else (nsd C s j).2) := by
        rw [nsd, e1]
        rfl
      have hd := (hO.2.1 j hj).2.2
      have hb := drw_le (nsd C s j).1
      have hrj := rJ_drw n1
      generalize drw (nsd C s j).1 = d at e2 hb hrj
      have hu2 : Upd P105 σ (wI τ 105 46 (nI (d))) := hu.wI rfl
      have hT2 := hu2.hasT hT
      have hM2 := mC_lo hu2 lo105 hT.2.1.1 hM
      refine ⟨wI τ 105 46 (nI (d)), ⟨hu2, by rw [e2]; exact row_ssd (s := ssd s (nsd C s j).1) (x := d) hx' h6⟩, ?_⟩
      rw [f255_4, e2]
      have hsd : mI τ 105 46 = nI (nsd C s j).1 := hx'.2.2.2.2.2.2
      simp only [acM hT'.1, acG hT', acT0 hT'.2.1, Option.bind_some, hM'.1.2.2.1, hal', e1, bo_0, nI_1, litM, show 46 < 47 by omega, hsd, hrj, lN_i]
      rw [if_neg (nI_ge hj (by omega)), if_neg (by simp)]
      have q1 : gR (wI τ 105 46 (nI d)) 102 9 17 = some 105 := by simp only [acM hT2.1]
      have q2 : aI (wI τ 105 46 (nI d)) 105 (nI 46) = some (nI d) := by
        rw [aI_nI (sh_a hT2.1 (by decide) rfl rfl) (by decide) (by decide), mI_w, if_pos ⟨rfl, rfl⟩]
      have q3 : rI (nI d) 100 = some (nI (d % 100)) := rIN (x := d) (y := 100) (by omega) (by omega) (by omega)
      have q4 : gR (wI τ 105 46 (nI d)) 102 9 3 = some c := (acG hT2).1
      have q5 : gR (wI τ 105 46 (nI d)) c 8 9 = some (c + 3) := by simp only [acT0 hT2.2.1]
      have q6 : aI (wI τ 105 46 (nI d)) (c + 3) (nI j) = some (nI (dz C j)) := by
        rw [aI_nI (acTi hT2.2.1).2.2.1 hj6 (by decide), (hM2.2.1 j hj).2.2]
      rw [q1, Option.bind_some, q2, Option.bind_some, q3, Option.bind_some, q4, Option.bind_some, q5, Option.bind_some, q6, Option.bind_some]
      unfold f255_84 f255_86
      rw [or0, nI_1]
      simp only [nI_leI (show dz C j < 2 ^ 31 by omega) (show d % 100 < 2 ^ 31 by omega)]
      by_cases e3 : d % 100 < dz C j
      · rw [if_neg (by omega), if_pos e3, orN _ n2 j hj6]
      · rw [if_pos (by omega), if_neg e3]
  · obtain ⟨hu, hx'⟩ := hI
    obtain ⟨n1, n2, n3⟩ := nsd_ok (C := C) (s := s) hk.2.2.2.2.2.2.2.1 (pe C) (by omega)
    have hk' := ssd_ok (x := (nsd C s (pe C)).1) hk n1
    have hT' := hu.hasT hT
    have hM' := mC_lo hu lo105 hT.2.1.1 hM
    obtain ⟨υ, v1, v2, v3⟩ := f196N (s := ssd s (nsd C s (pe C)).1) (D := (nsd C s (pe C)).2) ⟨hT', hM', hO, hx', hk'⟩ n2 n3 b
    refine ⟨υ, ?_, (hu.mono (fun a k hq => ?_)).trans v2, v3⟩
    · show f255_4 (m + 1) _ _ _ _ _ = _
      rw [f255_4]
      simp only [acM hT'.1, acG hT', acT0 hT'.2.1, Option.bind_some, hM'.1.2.2.1]
      rw [if_pos (nI_le (by omega) (by omega))]
      unfold f255_92
      simp only [acM hT'.1, Option.bind_some, v1]
    · unfold Pda at hq
      simp only [Bool.or_eq_false_iff] at hq
      exact hq.1
end REF
