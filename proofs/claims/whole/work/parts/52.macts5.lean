/-! ACTS: the reference's undo, image, back -/
section REF
variable {σ : xM} {c n : Nat} {s : Sta} {C : Cty} {ps im : Nat → Sta} {na ni : Nat}
theorem m267 (h : QM σ C s) (hz : ¬ 0 < pe C → na = 0) (hP : mP σ (pe C) ps na) (hI : mIm σ (pe C) im ni) : mA σ C (f267 102 σ) (aUnd s ps na im ni) := by
  have h1 := QM_upd th_upd h
  obtain ⟨hS1, hk, hv1, hc1⟩ := id h1
  have href : ∀ r, mA σ C (some (0, gd (th σ) r)) (0, r, s, ps, na, im, ni) := fun r => mA_of (x := (0, r)) h hP hI (mQ_gd th_upd th_0)
  obtain ⟨p1, p2, p3⟩ := mP_upd (th_upd (σ := σ)) rfl (fun _ => rfl) hP
  have hI1 := mIm_upd (th_upd (σ := σ)) rfl (fun _ => rfl) hI
  have hu1 : Upd PmA σ (th σ) := mA_Q th_upd
  have h01 : mI (th σ) 102 0 = 0 := th_0
  have hn := hk.1
  unfold f267 f267_19 aUnd
  simp only [acM h.1, Option.bind_some]
  rw [show wI σ 102 0 0 = th σ from rfl]
  by_cases e : 0 < pe C
  · obtain ⟨c0, hg, -⟩ := isC h e
    simp only [hg, Option.bind_some, acM hS1, p2, nI_0' na (show na < 2 ^ 31 by omega), f153N hS1, rZ_0]
    by_cases e2 : na = 0
    · rw [if_pos e2, if_pos e2]
      exact href 6
    · obtain ⟨na, rfl⟩ : ∃ k, na = k + 1 := ⟨na - 1, by omega⟩
      rw [if_neg e2, if_neg e2, nI_pred, show na + 1 - 1 = na by omega]
      generalize th σ = ω at h1 hS1 hv1 p2 p3 hI1 hu1 h01
      let τ1 := wI ω 102 20 (nI na)
      let W := fun j => wr τ1 104 (fun k => mI ω 106 (47 * na + k)) j
      have uW : ∀ j, Upd (fun a k => Nat.beq a 104 || (Nat.beq a 102 && Nat.beq k 20)) ω (W j) := fun j => (Upd.refl.wI rfl).wr (fun _ _ => rfl)
      have SW : ∀ j, Sh (W j) := fun j => (uW j).sh hS1
      have e20 : ∀ j, mI (W j) 102 20 = nI na := fun j => by
        show mI (wr (wI ω 102 20 _) 104 _ j) 102 20 = _
        rw [mI_wr, if_neg (fun h => absurd h.1 (by decide)), mI_w, if_pos ⟨rfl, rfl⟩]
      have hL : f267_38 1100 102 0 τ1 = some (1, gd (W 47) 0) := by
        refine lp (fun m j => f267_38 m 102 (nI j) (W j)) 47 (fun j hj m r hn => ?_) (fun m => ?_) 47 1100 0 rfl (by omega)
        · have hn : f267_38 m 102 (nI (j + 1)) (wI (W j) 104 j (mI ω 106 (47 * na + j))) = r := hn
          have e6 : mI (W j) 106 (47 * na + j) = mI ω 106 (47 * na + j) := (uW j).2.1 106 _ rfl
          show f267_38 (m + 1) _ _ _ = _
          rw [f267_38, if_neg (show ¬ (47 : Int32) ≤ nI j from nI_ge (b := 47) hj (by omega))]
          simp only [acM (SW j), Option.bind_some, e20, show (47 : Int32) = nI 47 from rfl, pk_mul, nI_add, show 47 * na + j < 752 by omega, e6, hj, nI_1]
          exact hn
        · show f267_38 (m + 1) _ _ _ = _
          rw [f267_38, if_pos (show (47 : Int32) ≤ nI 47 by decide)]
          unfold f267_70
          simp only [acM (SW 47), Option.bind_some, f155N (SW 47), rZ_1]
      rw [show wI ω 102 20 (nI na) = τ1 from rfl, hL]
      have uA : Upd PmA ω (W 47) := (uW 47).mono (fun a k hq => by
        unfold PmA at hq
        simp only [Bool.or_eq_false_iff, Bool.and_eq_false_iff] at hq
        rw [hq.2.1]
        rcases hq.2.2.2.2 with h2 | h2
        · rw [h2]; rfl
        · rw [h2.1]; simp)
      refine goodA (hu1.trans uA) ((uW 47).2.1 102 0 rfl |>.trans h01) ?_ ⟨by omega, e20 47, fun i hi => ?_⟩ (mIm_upd (uW 47) rfl (fun _ => rfl) hI1)
      · refine mrow_congr hn (fun k hk => ?_) (p3 0 (by omega))
        show mI ω 106 _ = mI (wr τ1 104 _ 47) 104 k
        rw [mI_wr, if_pos ⟨rfl, hk⟩]
        exact congrArg (mI ω 106) (by omega)
      · refine mrow_congr hn (fun k hk => ?_) (p3 (i + 1) (by omega))
        show mI ω 106 _ = mI (W 47) 106 _
        rw [(uW 47).2.1 106 _ rfl]
        exact congrArg (mI ω 106) (by omega)
  · rw [if_pos (hz e)]
    simp only [noC h e, Option.bind_some, acM hS1, f153N hS1, rZ_0]
    exact href 6
theorem m268 (h : QM σ C s) (hP : mP σ (pe C) ps na) (hI : mIm σ (pe C) im ni) : mA σ C (f268 102 σ) (aImg (pe C) s ps na im ni) := by
  have h1 := QM_upd th_upd h
  obtain ⟨hS1, hk, hv1, hc1⟩ := id h1
  have href : ∀ r, mA σ C (some (-1, gd (th σ) r)) (-1, r, s, ps, na, im, ni) := fun r => mA_of (x := (-1, r)) h hP hI (mQ_gd th_upd th_0)
  have hP1 := mP_upd (th_upd (σ := σ)) rfl (fun _ => rfl) hP
  obtain ⟨i1, i2, i3⟩ := mIm_upd (th_upd (σ := σ)) rfl (fun _ => rfl) hI
  have hu1 : Upd PmA σ (th σ) := mA_Q th_upd
  have h01 : mI (th σ) 102 0 = 0 := th_0
  have hn := hk.1
  unfold f268 aImg imgT
  simp only [acM h.1, Option.bind_some]
  rw [show wI σ 102 0 0 = th σ from rfl]
  by_cases e : 0 < pe C
  · obtain ⟨c0, hg, -⟩ := isC h e
    simp only [hg, Option.bind_some, acM hS1, i2, show (3 : Int32) = nI 3 from rfl, nI_eq (show ni < 2 ^ 31 by omega) (show 3 < 2 ^ 31 by omega), f151N hS1]
    by_cases e2 : ni = 3
    · have : ¬ ni < 3 := by omega
      rw [if_pos e2, if_pos e, if_neg this, if_neg (by decide)]
      exact href 3
    · have e3 : ni < 3 := by omega
      rw [if_neg e2, if_pos e, if_pos e3, if_pos rfl]
      generalize th σ = ω at h1 hS1 hv1 hP1 i2 i3 hu1 h01
      have hL : ∃ τ, f268_34 1100 102 0 ω = some (nI ni, gd (wI τ 102 21 (nI (ni + 1))) 0) ∧ Upd (fun a _ => Nat.beq a 107) ω τ ∧ (∀ k, mI τ 107 k = if 47 * ni ≤ k ∧ k < 47 * ni + 47 then mI ω 104 (k - 47 * ni) else mI ω 107 k) := by
        refine lpI (fun m j τ => f268_34 m 102 (nI j) τ) 47 (fun j τ => Upd (fun a _ => Nat.beq a 107) ω τ ∧ (∀ k, mI τ 107 k = if 47 * ni ≤ k ∧ k < 47 * ni + j then mI ω 104 (k - 47 * ni) else mI ω 107 k)) (fun o => ∃ τ, o = some (nI ni, gd (wI τ 102 21 (nI (ni + 1))) 0) ∧ Upd (fun a _ => Nat.beq a 107) ω τ ∧ (∀ k, mI τ 107 k = if 47 * ni ≤ k ∧ k < 47 * ni + 47 then mI ω 104 (k - 47 * ni) else mI ω 107 k)) (fun j hj m τ hI => ?_) (fun m τ hI => ?_) 47 1100 0 ω rfl (by omega) ⟨Upd.refl, fun k => by rw [if_neg (by omega)]⟩
        · obtain ⟨hu, hr⟩ := hI
          have hS' := hu.sh hS1
          have e1 : mI τ 102 21 = nI ni := (hu.2.1 102 21 rfl).trans i2
          have e2 : mI τ 104 j = mI ω 104 j := hu.2.1 104 j rfl
          refine ⟨wI τ 107 (47 * ni + j) (mI ω 104 j), ⟨hu.wI rfl, fun k => ?_⟩, ?_⟩
          · rw [mI_w]
            by_cases e : k = 47 * ni + j
            · rw [if_pos ⟨rfl, e⟩, if_pos (by omega), e, show 47 * ni + j - 47 * ni = j by omega]
            · rw [if_neg (fun h => e h.2), hr k]
              by_cases e3 : 47 * ni ≤ k ∧ k < 47 * ni + j
              · rw [if_pos e3, if_pos (by omega)]
              · rw [if_neg e3, if_neg (by omega)]
          · show f268_34 (m + 1) _ _ _ = f268_34 m _ _ _
            rw [f268_34, if_neg (show ¬ (47 : Int32) ≤ nI j from nI_ge (b := 47) hj (by omega))]
            simp only [acM hS', Option.bind_some, e1, hj, e2, show (47 : Int32) = nI 47 from rfl, pk_mul, nI_add, show 47 * ni + j < 141 by omega, nI_1]
        · obtain ⟨hu, hr⟩ := hI
          have hS' := hu.sh hS1
          have e1 : mI τ 102 21 = nI ni := (hu.2.1 102 21 rfl).trans i2
          have hS2 : Sh (wI τ 102 21 (nI (ni + 1))) := hS'
          have e2 : mI (wI τ 102 21 (nI (ni + 1))) 102 21 = nI (ni + 1) := by rw [mI_w, if_pos ⟨rfl, rfl⟩]
          refine ⟨τ, ?_, hu, hr⟩
          show f268_34 (m + 1) _ _ _ = _
          rw [f268_34, if_pos (show (47 : Int32) ≤ nI 47 by decide)]
          unfold f268_66
          simp only [acM hS', Option.bind_some, e1, nI_1, acM hS2, e2, nI_pred, f154N hS2]
      obtain ⟨τ, t1, t2, t3⟩ := hL
      rw [t1]
      have u3 : Upd (fun a k => Nat.beq a 107 || (Nat.beq a 102 && Nat.beq k 21)) ω (wI τ 102 21 (nI (ni + 1))) := (t2.mono (fun a k hq => by
        rw [Bool.or_eq_false_iff] at hq
        exact hq.1)).wI rfl
      have uA : Upd PmA ω (wI τ 102 21 (nI (ni + 1))) := u3.mono (fun a k hq => by
        unfold PmA at hq
        simp only [Bool.or_eq_false_iff, Bool.and_eq_false_iff] at hq
        rw [hq.2.2.2.1]
        rcases hq.2.2.2.2 with h2 | h2
        · rw [h2]; rfl
        · rw [h2.2]; simp)
      refine goodA (hu1.trans uA) ((u3.2.1 102 0 rfl).trans h01) (row_upd u3 (fun _ => rfl) hv1) (mP_upd u3 rfl (fun _ => rfl) hP1) ⟨by omega, by rw [mI_w, if_pos ⟨rfl, rfl⟩], fun i hi => ?_⟩
      have e7 : ∀ k, mI (wI τ 102 21 (nI (ni + 1))) 107 k = mI τ 107 k := fun k => by rw [mI_w, if_neg (fun h => absurd h.1 (by decide))]
      show mrow _ (pe C) (if i = ni then s else im i)
      by_cases ei : i = ni
      · rw [if_pos ei, ei]
        refine mrow_congr hn (fun k hk => ?_) hv1
        show mI ω 104 k = mI _ 107 _
        rw [e7, t3, if_pos (by omega)]
        exact congrArg (mI ω 104) (by omega)
      · rw [if_neg ei]
        refine mrow_congr hn (fun k hk => ?_) (i3 i (by omega))
        show mI ω 107 _ = mI _ 107 _
        rw [e7, t3, if_neg (by omega)]
  · rw [if_neg e, if_neg (by decide)]
    simp only [noC h e, Option.bind_some, acM hS1, f151N hS1]
    exact href 1
theorem m269 (h : QM σ C s) (hz : ¬ 0 < pe C → ni = 0) (hP : mP σ (pe C) ps na) (hI : mIm σ (pe C) im ni) (x : Int32) : mA σ C (f269 102 x σ) (aBac s ps na im ni x) := by
  have h1 := QM_upd th_upd h
  obtain ⟨hS1, hk, hv1, hc1⟩ := id h1
  have href : ∀ r, mA σ C (some (0, gd (th σ) r)) (0, r, s, ps, na, im, ni) := fun r => mA_of (x := (0, r)) h hP hI (mQ_gd th_upd th_0)
  have hP1 := mP_upd (th_upd (σ := σ)) rfl (fun _ => rfl) hP
  have hI1 := mIm_upd (th_upd (σ := σ)) rfl (fun _ => rfl) hI
  obtain ⟨i1, i2, i3⟩ := id hI1
  have hu1 : Upd PmA σ (th σ) := mA_Q th_upd
  have h01 : mI (th σ) 102 0 = 0 := th_0
  have hn := hk.1
  unfold f269 f269_24 aBac
  simp only [acM h.1, Option.bind_some]
  rw [show wI σ 102 0 0 = th σ from rfl]
  by_cases e : 0 < pe C
  · obtain ⟨c0, hg, -⟩ := isC h e
    simp only [hg, Option.bind_some, acM hS1, i2, f153N hS1, rZ_0]
    cases ex : isP ni x
    · unfold isP at ex
      rw [decide_eq_false_iff_not] at ex
      rw [if_neg (show ¬ (false = true) by simp)]
      by_cases e1 : x < 0
      · rw [if_pos e1]
        exact href 1
      · rw [if_neg e1, if_neg (fun h => ex ⟨e1, Int32.not_le.mpr h⟩)]
        exact href 1
    · obtain ⟨j, hj, rfl⟩ := isP_nI (by omega) ex
      rw [if_neg (nI_pos (by omega)), if_pos (nI_lt hj (by omega)), if_pos (show true = true from rfl), pN_nI (show j < 6 by omega)]
      generalize th σ = ω at h1 hS1 hv1 hP1 hI1 i2 i3 hu1 h01
      obtain ⟨W, W0, Ws, uW, W4⟩ : ∃ W : Nat → xM, W 0 = ω ∧ (∀ k, W (k + 1) = wI (W k) 104 k (mI ω 107 (47 * j + k))) ∧ (∀ k, Upd P104 ω (W k)) ∧ (∀ k, k < 47 → mI (W 47) 104 k = mI ω 107 (47 * j + k)) := ⟨fun k => wr ω 104 (fun k => mI ω 107 (47 * j + k)) k, rfl, fun k => rfl, fun k => Upd.refl.wr (fun _ _ => rfl), fun k hk => by rw [mI_wr, if_pos ⟨rfl, hk⟩]⟩
      have SW : ∀ k, Sh (W k) := fun k => (uW k).sh hS1
      have hL : f269_32 1100 102 (nI j) 0 ω = some (1, gd (wI (W 47) 102 20 0) 0) := by
        have hlp : f269_32 1100 102 (nI j) (nI 0) (W 0) = some (1, gd (wI (W 47) 102 20 0) 0) := by
         refine lp (fun m k => f269_32 m 102 (nI j) (nI k) (W k)) 47 (fun k hk m r hn => ?_) (fun m => ?_) 47 1100 0 rfl (by omega)
         · have hn : f269_32 m 102 (nI j) (nI (k + 1)) (W (k + 1)) = r := hn
           rw [Ws] at hn
           have e6 : mI (W k) 107 (47 * j + k) = mI ω 107 (47 * j + k) := (uW k).2.1 107 _ rfl
           have Sk := SW k
           show f269_32 (m + 1) _ _ _ _ = _
           generalize W k = ξ at hn e6 Sk ⊢
           rw [f269_32, if_neg (show ¬ (47 : Int32) ≤ nI k from nI_ge (b := 47) hk (by omega))]
           simp only [acM Sk, Option.bind_some, show (47 : Int32) = nI 47 from rfl, pk_mul, nI_add, show 47 * j + k < 141 by omega, e6, hk, nI_1]
           exact hn
         · have S47 := SW 47
           show f269_32 (m + 1) _ _ _ _ = _
           generalize W 47 = ξ at S47 ⊢
           have S2 : Sh (wI ξ 102 20 0) := S47
           rw [f269_32, if_pos (show (47 : Int32) ≤ nI 47 by decide)]
           unfold f269_61
           simp only [acM S47, Option.bind_some, acM S2, f155N S2, rZ_1]
        rw [W0, nI_0] at hlp
        exact hlp
      have hrow : mrow (mI (W 47) 104) (pe C) (im j) := by
        refine mrow_congr hn (fun k hk => ?_) (i3 j hj)
        exact (W4 k hk).symm
      have uW4 := uW 47
      rw [hL]
      generalize W 47 = ξ at hrow uW4
      have u2 : Upd (fun a k => Nat.beq a 104 || (Nat.beq a 102 && Nat.beq k 20)) ω (wI ξ 102 20 0) := (uW4.mono (fun a k hq => by
        rw [Bool.or_eq_false_iff] at hq
        exact hq.1)).wI rfl
      have uA : Upd PmA ω (wI ξ 102 20 0) := u2.mono (fun a k hq => by
        unfold PmA at hq
        simp only [Bool.or_eq_false_iff, Bool.and_eq_false_iff] at hq
        rw [hq.2.1]
        rcases hq.2.2.2.2 with h2 | h2
        · rw [h2]; rfl
        · rw [h2.1]; simp)
      refine goodA (hu1.trans uA) ((u2.2.1 102 0 rfl).trans h01) ?_ ⟨by omega, by rw [mI_w, if_pos ⟨rfl, rfl⟩]; rfl, fun i hi => absurd hi (by omega)⟩ (mIm_upd u2 rfl (fun _ => rfl) hI1)
      exact row_upd (P := fun a _ => Nat.beq a 102) (Upd.refl.wI rfl) (fun _ => rfl) hrow
  · have : isP ni x = false := by rw [hz e]; exact isP_0 x
    rw [this, if_neg (show ¬ (false = true) by simp)]
    simp only [noC h e, Option.bind_some, acM hS1, f153N hS1, rZ_0]
    exact href 1
end REF
