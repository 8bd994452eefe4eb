/-! NIGHTS BY DRAWS: the reference's answers -/
theorem fs_snoc {c : Nat → Bool} : ∀ (m j : Nat), fs c j (m + 1) = match fs c j m with
    | some i => some i
    | none => if c (j + m) then some (j + m) else none := by
  intro m
  induction m with
  | zero => intro j; rfl
  | succ m ih =>
    intro j
    have e1 : fs c j (m + 1 + 1) = if c j then some j else fs c (j + 1) (m + 1) := rfl
    have e2 : fs c j (m + 1) = if c j then some j else fs c (j + 1) m := rfl
    rw [e1, e2]
    cases e : c j
    · rw [if_neg (by simp), if_neg (by simp), ih (j + 1), show j + 1 + m = j + (m + 1) by omega]
    · rfl
theorem obP_m2 {o : Option Nat} (h : ∀ x, o = some x → x < 2 ^ 31) : (obP o = -2) = (o = none) := by
  apply propext
  cases o with
  | none => exact ⟨fun _ => rfl, fun _ => rfl⟩
  | some x =>
    refine ⟨fun e => ?_, fun e => by cases e⟩
    have e : nI x = -2 := e
    have h1 := nI_pos (h x rfl)
    rw [e] at h1
    exact absurd (by decide) h1
def Pna : Nat → Nat → Bool := fun a k => Pda a k || (Nat.beq a 102 && Nat.beq k 36)
theorem loNa : lo Pna := fun a k ha => by
  unfold Pna
  rw [loDa a k ha, beqF (show a ≠ 102 by omega)]
  rfl
theorem na_da {σ τ : xM} (h : Upd Pda σ τ) : Upd Pna σ τ := h.mono (fun a k hq => by
  unfold Pna at hq
  rw [Bool.or_eq_false_iff] at hq
  exact hq.1)
theorem na_Q {σ τ : xM} (h : Upd Pna σ τ) : Upd PmQ σ τ := h.mono (fun a k hq => by
  unfold PmQ at hq
  rw [Bool.or_eq_false_iff] at hq
  have g : ∀ b, b ∈ [105, 108, 109, 110, 111, 112, 113, 114] → a ≠ b := fun b hb h => by
    have := List.any_eq_false.mp hq.1 b hb
    rw [h] at this
    simp at this
  unfold Pna Pda
  rw [beqF (g 105 (by simp)), beqF (g 108 (by simp)), beqF (g 109 (by simp))]
  rcases Bool.and_eq_false_iff.mp hq.2 with h2 | h2
  · rw [h2]; rfl
  · have h24 := List.any_eq_false.mp h2 24 (by simp)
    have h36 := List.any_eq_false.mp h2 36 (by simp)
    rw [beqF (show k ≠ 24 by simpa using h24), beqF (show k ≠ 36 by simpa using h36)]
    simp)
section REF
variable {σ : xM} {c n : Nat} {s : Sta} {C : Cty}
theorem r3x {ω : xM} {a : Nat} (hSw : Sh ω) : tI ω 105 46 (nI a) = some (wI ω 105 46 (nI a)) := tI_nI (j := 46) (sh_a hSw (by decide) rfl rfl) (by decide) (by decide)
theorem r4x {ω : xM} {a : Nat} (hSw : Sh ω) : pI (wI ω 105 46 (nI a)) 102 9 36 (-2) = some (wI (wI ω 105 46 (nI a)) 102 36 (-2)) := pI_ok (sh_n hSw (by decide)) (sh_k hSw (by decide))
theorem f256N (hT : hasT σ c) (hM : mC σ c C) (hO : OkC C) (hv : mrow (mI σ 104) (pe C) s) (hk : Ok (pe C) s) {a b : Nat} (ha : a ≤ 65536) (hb : b ≤ 60) : ∃ τ, f256 102 (nI a) (nI b) σ = some τ ∧ Upd Pna σ τ ∧ mrow (mI τ 105) (pe C) (ngs C (ssd s a) b) ∧ mI τ 102 36 = obP (fs (fcC C s a) 1 b) := by
  have h6 := hk.1
  have hA := wk_AM hT hM hO hv hk
  have uw : Upd Pna σ (wk σ) := na_da (wk_upd.mono (fun a k hq => by
    unfold Pda at hq
    rw [Bool.or_eq_false_iff] at hq
    exact hq.1))
  have hSw := hA.1.1
  have hxw := hA.2.2.2.1
  have hfw := f188N (σ := σ) hT.1
  generalize wk σ = ω at hA uw hSw hxw hfw
  have u1 : Upd Pna σ (wI (wI ω 105 46 (nI a)) 102 36 (-2)) := (uw.wI rfl).wI rfl
  have r1 : cO σ 102 9 = some () := by simp only [acM hT.1]
  have r2 : gR ω 102 9 17 = some 105 := by simp only [acM hSw]
  have r3 := r3x (a := a) hSw
  have r4 := r4x (a := a) hSw
  unfold f256
  rw [r1, Option.bind_some, hfw, Option.bind_some, r2, Option.bind_some, r3, Option.bind_some, r4, Option.bind_some]
  refine lpI (fun m j τ => f256_20 m 102 (nI b) (nI (j + 1)) τ) b (fun j τ => Upd Pna σ τ ∧ mrow (mI τ 105) (pe C) (ngs C (ssd s a) j) ∧ mI τ 102 36 = obP (fs (fcC C s a) 1 j)) (fun o => ∃ τ, o = some τ ∧ Upd Pna σ τ ∧ mrow (mI τ 105) (pe C) (ngs C (ssd s a) b) ∧ mI τ 102 36 = obP (fs (fcC C s a) 1 b)) (fun j hj m τ hI => ?_) (fun m τ hI => ?_) b 1100 0 _ (by omega) (by omega) ⟨u1, ?_, ?_⟩
  · obtain ⟨hu, hx', hf'⟩ := hI
    have hT' := hu.hasT hT
    have hM' := mC_lo hu loNa hT.2.1.1 hM
    have hk' := ngs_ok (C := C) (ssd_ok hk ha) j
    obtain ⟨υ, v1, v2, v3⟩ := f255N (C := C) ⟨hT', hM', hO, hx', hk'⟩ false
    have huυ := hu.trans (na_da v2)
    have hTυ := huυ.hasT hT
    have hvυ := row_upd (a := 104) huυ (fun _ => rfl) hv
    have hfυ : mI υ 102 36 = obP (fs (fcC C s a) 1 j) := (v2.2.1 102 36 rfl).trans hf'
    rw [leaC_f] at v3
    rw [show lea (ssd (ngs C (ssd s a) j) (nsd C (ngs C (ssd s a) j) 6).1) (ngD C (ngs C (ssd s a) j)) = ngs C (ssd s a) (j + 1) from rfl] at v3
    have b1 : ct s ≤ 594 := by have := hk.2.2.2.1; omega
    have b2 : ct (ngs C (ssd s a) (j + 1)) ≤ 594 := by have := (ngs_ok (C := C) (ssd_ok hk ha) (j + 1)).2.2.2.1; omega
    have hlt : ∀ x, fs (fcC C s a) 1 j = some x → x < 2 ^ 31 := fun x e => by have := (fs_lt _ _ _ e).1; omega
    have hsn := fs_snoc (c := fcC C s a) j 1
    have hbo := v1
    rw [show bo false = 0 from rfl] at hbo
    show ∃ τ', _ ∧ f256_20 (m + 1) _ _ _ _ = f256_20 m _ _ _ _
    cases e1 : fs (fcC C s a) 1 j with
    | some i =>
      rw [e1] at hsn
      have hsn : fs (fcC C s a) 1 (j + 1) = some i := hsn
      refine ⟨υ, ⟨huυ, v3, ?_⟩, ?_⟩
      · rw [hfυ, e1, hsn]
      · rw [f256_20, if_neg (nI_nlt (by omega) (by omega))]
        simp only [acM hT'.1, Option.bind_some, hbo, acM hTυ.1, hfυ, obP_m2 hlt, f256_62, nI_1]
        rw [if_neg (by rw [e1]; simp)]
    | none =>
      rw [e1] at hsn
      have hsn : fs (fcC C s a) 1 (j + 1) = if fcC C s a (1 + j) then some (1 + j) else none := hsn
      rw [show fcC C s a (1 + j) = decide (ct s < ct (ngs C (ssd s a) (j + 1))) by rw [Nat.add_comm]; rfl] at hsn
      by_cases e2 : ct s < ct (ngs C (ssd s a) (j + 1))
      · rw [decide_eq_true e2, if_pos rfl] at hsn
        refine ⟨wI υ 102 36 (nI (j + 1)), ⟨huυ.wI rfl, ?_, ?_⟩, ?_⟩
        · have e5 : mI (wI υ 102 36 (nI (j + 1))) 105 = mI υ 105 := funext (fun k => by rw [mI_w, if_neg (fun h => absurd h.1 (by decide))])
          rw [e5]
          exact v3
        · rw [mI_w, if_pos ⟨rfl, rfl⟩, hsn, Nat.add_comm]
          rfl
        · rw [f256_20, if_neg (nI_nlt (by omega) (by omega))]
          simp only [acM hT'.1, Option.bind_some, hbo, acM hTυ.1, hfυ, obP_m2 hlt, f256_62, nI_1, litM, show 43 < 47 by omega, v3.2.2.2.1, hvυ.2.2.2.1, nI_leI (show ct (ngs C (ssd s a) (j + 1)) < 2 ^ 31 by omega) (show ct s < 2 ^ 31 by omega)]
          rw [if_pos e1, if_neg (by omega)]
      · rw [decide_eq_false e2, if_neg (by simp)] at hsn
        refine ⟨υ, ⟨huυ, v3, ?_⟩, ?_⟩
        · rw [hfυ, e1, hsn]
        · rw [f256_20, if_neg (nI_nlt (by omega) (by omega))]
          simp only [acM hT'.1, Option.bind_some, hbo, acM hTυ.1, hfυ, obP_m2 hlt, f256_62, nI_1, litM, show 43 < 47 by omega, v3.2.2.2.1, hvυ.2.2.2.1, nI_leI (show ct (ngs C (ssd s a) (j + 1)) < 2 ^ 31 by omega) (show ct s < 2 ^ 31 by omega)]
          rw [if_pos e1, if_pos (by omega)]
  · obtain ⟨hu, hx', hf'⟩ := hI
    refine ⟨τ, ?_, hu, hx', hf'⟩
    show f256_20 (m + 1) _ _ _ _ = _
    rw [f256_20, if_pos (nI_lt (by omega) (by omega))]
    rfl
  · have e5 : mI (wI (wI ω 105 46 (nI a)) 102 36 (-2)) 105 = mI (wI ω 105 46 (nI a)) 105 := funext (fun k => by rw [mI_w, if_neg (fun h => absurd h.1 (by decide))])
    rw [e5]
    exact row_ssd hxw h6
  · rw [mI_w, if_pos ⟨rfl, rfl⟩]
    rfl
theorem f257N (b : Bool) (x y : Int32) (σ : xM) : f257 102 (bo b) x y σ = some (if b then (if (x < 0 ∨ 65536 < x) ∨ (y < 0 ∨ 60 < y) then 2 else 0) else 1, σ) := by
  unfold f257 f257_33 f257_34
  simp only [bo_0, f156N, Option.bind_some]
  cases b
  · simp
  · by_cases e1 : x < 0 ∨ 65536 < x <;> by_cases e2 : y < 0 ∨ 60 < y <;> simp [e1, e2]
theorem drOr_le {n : Nat} {x y : Int32} : (drOr n x y ≤ 0) = (drOr n x y = 0) := by
  unfold drOr
  split
  · split <;> simp
  · simp
theorem m259_60 (h : QM σ C s) (x y : Int32) : f257 102 (bo (decide (0 < pe C))) x y (th σ) = some (drOr (pe C) x y, th σ) := by
  rw [f257N]
  unfold drOr
  by_cases e : 0 < pe C <;> simp [e]
/-- the nights of a call -/
theorem nigQ (h : QM σ C s) {a b : Nat} (hp : 0 < pe C) (ha : a ≤ 65536) (hb : b ≤ 60) : ∃ τ, f256 102 (nI a) (nI b) (th σ) = some τ ∧ Upd PmQ σ τ ∧ mrow (mI τ 105) (pe C) (ngs C (ssd s a) b) ∧ mI τ 102 36 = obP (fs (fcC C s a) 1 b) ∧ mI τ 102 0 = 0 ∧ Sh τ := by
  have h1 := QM_upd th_upd h
  obtain ⟨c, hg, hT, hM, hO⟩ := isC h hp
  obtain ⟨τ, t1, t2, t3, t4⟩ := f256N hT hM hO h1.2.2.1 h1.2.1 ha hb
  exact ⟨τ, t1, th_upd.trans (na_Q t2), t3, t4, (t2.2.1 102 0 rfl).trans th_0, t2.sh h1.1⟩
theorem m258 (h : QM σ C s) (p x y : Int32) : mQ σ (f258 102 p x y σ) (aNig C s p x y) := by
  have h1 := QM_upd th_upd h
  obtain ⟨hS1, hk, hv1, hc1⟩ := id h1
  unfold f258 aNig
  simp only [acM h.1, Option.bind_some]
  rw [show wI σ 102 0 0 = th σ from rfl]
  simp only [acM hS1, Option.bind_some, f186Q h1, f257N, f151N hS1]
  cases e : isP (pe C) p
  · rw [if_neg (by simp), if_neg (by decide)]
    exact mQ_gd th_upd th_0
  · obtain ⟨j, hj, rfl⟩ := isP_nI hk.1 e
    have hj6 : j < 6 := by have := hk.1; omega
    have ed : (if (x < 0 ∨ 65536 < x) ∨ (y < 0 ∨ 60 < y) then (2 : Int32) else 0) = drOr (pe C) x y := by
      unfold drOr
      rw [if_pos (show 0 < pe C by omega)]
    simp only [if_true, ed, drOr_le]
    by_cases e2 : drOr (pe C) x y = 0
    · obtain ⟨hn, a, b, ha, hb, rfl, rfl⟩ := drOr_0 e2
      obtain ⟨τ, t1, t2, t3, t4, t5, t6⟩ := nigQ h hn ha hb
      rw [if_pos e2, if_pos e2, pN_any ha, pN_any (show b ≤ 65536 by omega), pN_nI hj6]
      simp only [t1, Option.bind_some, acM t6, show j < 47 by omega, t3.1 j hj, f154N t6]
      exact mQ_gd t2 t5
    · rw [if_neg e2, if_neg e2]
      exact mQ_gd th_upd th_0
theorem m259 (h : QM σ C s) (x y : Int32) : mQ σ (f259 102 x y σ) (aLiv C s x y) := by
  have h1 := QM_upd th_upd h
  obtain ⟨hS1, hk, hv1, hc1⟩ := id h1
  have e0 : f259 102 x y σ = f259_18 102 x y (bo (decide (0 < pe C))) 102 (th σ) := by
    unfold f259
    simp only [acM h.1, Option.bind_some]
    rw [show wI σ 102 0 0 = th σ from rfl]
    by_cases e : 0 < pe C
    · obtain ⟨c, hg, -⟩ := isC h e
      rw [hg, decide_eq_true e]
      rfl
    · rw [noC h e, decide_eq_false e]
      rfl
  rw [e0]
  unfold f259_18 aLiv
  simp only [acM hS1, Option.bind_some, m259_60 h, drOr_le, f151N hS1]
  by_cases e2 : drOr (pe C) x y = 0
  · obtain ⟨hn, a, b, ha, hb, rfl, rfl⟩ := drOr_0 e2
    obtain ⟨τ, t1, t2, t3, t4, t5, t6⟩ := nigQ h hn ha hb
    rw [if_pos e2, if_pos e2, pN_any ha, pN_any (show b ≤ 65536 by omega)]
    simp only [t1, Option.bind_some, acM t6, litM, show 42 < 47 by omega, t3.2.2.1, f154N t6]
    exact mQ_gd t2 t5
  · rw [if_neg e2, if_neg e2]
    exact mQ_gd th_upd th_0
theorem m260 (h : QM σ C s) (x y : Int32) : mQ σ (f260 102 x y σ) (aFir C s x y) := by
  have h1 := QM_upd th_upd h
  obtain ⟨hS1, hk, hv1, hc1⟩ := id h1
  have e0 : f260 102 x y σ = f260_18 102 x y (bo (decide (0 < pe C))) 102 (th σ) := by
    unfold f260
    simp only [acM h.1, Option.bind_some]
    rw [show wI σ 102 0 0 = th σ from rfl]
    by_cases e : 0 < pe C
    · obtain ⟨c, hg, -⟩ := isC h e
      rw [hg, decide_eq_true e]
      rfl
    · rw [noC h e, decide_eq_false e]
      rfl
  rw [e0]
  unfold f260_18 aFir
  simp only [acM hS1, Option.bind_some, m259_60 h, drOr_le, f151N hS1]
  by_cases e2 : drOr (pe C) x y = 0
  · obtain ⟨hn, a, b, ha, hb, rfl, rfl⟩ := drOr_0 e2
    obtain ⟨τ, t1, t2, t3, t4, t5, t6⟩ := nigQ h hn ha hb
    rw [if_pos e2, if_pos e2, pN_any ha, pN_any (show b ≤ 65536 by omega)]
    simp only [t1, Option.bind_some, acM t6, t4, f154N t6]
    exact mQ_gd t2 t5
  · rw [if_neg e2, if_neg e2]
    exact mQ_gd th_upd th_0
end REF
