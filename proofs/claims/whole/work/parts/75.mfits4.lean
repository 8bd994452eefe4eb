/-! HOURS THAT AREN'T SURE: the reference's answers -/
section REF
variable {σ : xM} {c : Nat} {s : Sta} {C : Cty}
theorem f240_all (hT : hasT σ c) (hM : mC σ c C) (hO : OkC C) (hH : OkH C) : ∃ τ, f240 102 (-1) 0 σ = some (0, τ) ∧ Upd Pft σ τ ∧ mI τ 102 33 = nI (cnF (fok C) (cds C)) ∧ tlM τ C (cds C) ∧ hrM τ C (cds C) := by
  obtain ⟨τ, t1, t2, t3, t4, t5, -⟩ := f240N (o := none) (k := 0) hT hM hO hH (fun i h => by cases h) (fun i h => by cases h) (by decide)
  exact ⟨τ, t1, t2, t3, t4, t5⟩
theorem m241 (h : QM σ C s) (hH : OkH C) : mQ σ (f241 102 σ) (aFit C) := by
  have h1 := QM_upd th_upd h
  obtain ⟨hS1, hk, hv1, hc1⟩ := id h1
  unfold f241 aFit
  simp only [acM h.1, Option.bind_some]
  rw [show wI σ 102 0 0 = th σ from rfl]
  by_cases e : 0 < pe C
  · obtain ⟨c, hg, hT, hM, hO⟩ := isC h e
    obtain ⟨τ, t1, t2, t3, -, -⟩ := f240_all hT hM hO hH
    have hS2 := t2.sh hS1
    rw [if_pos e]
    simp only [hg, Option.bind_some, acM hS1, t1, acM hS2, t3, f154N hS2]
    exact mQ_gd (th_upd.trans (ft_Q t2)) ((t2.2.1 102 0 rfl).trans th_0)
  · rw [if_neg e]
    simp only [noC h e, Option.bind_some, acM hS1, f151N hS1]
    exact mQ_gd th_upd th_0
theorem m242 (h : QM σ C s) (hH : OkH C) (i k : Int32) : mQ σ (f242 102 i k σ) (aFat C i k) := by
  have h1 := QM_upd th_upd h
  obtain ⟨hS1, hk, hv1, hc1⟩ := id h1
  have hno : mQ σ (f242_31 102 (th σ)) (-1, 1) := by
    unfold f242_31
    simp only [acM hS1, Option.bind_some, f151N hS1]
    exact mQ_gd th_upd th_0
  unfold f242 aFat okF
  simp only [acM h.1, Option.bind_some]
  rw [show wI σ 102 0 0 = th σ from rfl]
  by_cases e : 0 < pe C
  · obtain ⟨c, hg, hT, hM, hO⟩ := isC h e
    have hn := hO.2.2.2.2.2.2.2.2.2.2.2.1
    rw [decide_eq_true e]
    simp only [hg, Option.bind_some, acG hT, acT0 hT.2.1, hM.1.2.2.2.2.2.1]
    by_cases e1 : i < 0
    · rw [if_pos e1, decide_eq_true e1]
      exact hno
    · rw [if_neg e1, decide_eq_false e1]
      by_cases e2 : k < 0
      · rw [if_pos e2, decide_eq_true e2]
        exact hno
      · rw [if_neg e2, decide_eq_false e2]
        by_cases e3 : nI (nHe C) ≤ k
        · rw [if_neg (Int32.not_lt.mpr e3), decide_eq_true e3]
          exact hno
        · rw [if_pos (Int32.not_le.mp e3), decide_eq_false e3, if_pos (by rfl)]
          obtain ⟨i, hi, rfl⟩ := nI_of e1
          obtain ⟨k, hk', rfl⟩ := nI_of e2
          have hkn : k < nHe C := by
            rcases Nat.lt_or_ge k (nHe C) with h | h
            · exact h
            · exact absurd (nI_le h hk') e3
          obtain ⟨τ, t1, t2, -, -, -, t6⟩ := f240N (o := some i) (k := k) hT hM hO hH (fun j hj => by cases hj; exact hi) (fun j hj => hkn) hk'
          have hS2 := t2.sh hS1
          rw [show pN (nI i) = i from nI_clamp hi, show pN (nI k) = k from nI_clamp hk', show f240 102 (nI i) (nI k) (th σ) = some (bo (oiF C (some i) (cds C)).isSome, τ) from t1]
          have e0 : oiF C (some i) (cds C) = fnd C i := rfl
          rw [e0] at t6 ⊢
          unfold f242_62
          simp only [acM hS1, Option.bind_some, bo_0]
          cases e4 : fnd C i with
          | none =>
            rw [if_pos (show (none : Option Nat).isSome = false from rfl)]
            simp only [acM hS2, Option.bind_some, f151N hS2]
            exact mQ_gd (th_upd.trans (ft_Q t2)) ((t2.2.1 102 0 rfl).trans th_0)
          | some x =>
            rw [if_neg (by simp)]
            simp only [acM hS2, Option.bind_some, t6 x e4, f154N hS2]
            exact mQ_gd (th_upd.trans (ft_Q t2)) ((t2.2.1 102 0 rfl).trans th_0)
  · rw [decide_eq_false e]
    simp only [noC h e, Option.bind_some]
    exact hno
theorem m243 (h : QM σ C s) (hH : OkH C) (p q : Int32) : mQ σ (f243 102 p q σ) (aHby C p q) := by
  have h1 := QM_upd th_upd h
  obtain ⟨hS1, hk, hv1, hc1⟩ := id h1
  unfold f243 aHby
  simp only [acM h.1, Option.bind_some]
  rw [show wI σ 102 0 0 = th σ from rfl]
  simp only [acM hS1, Option.bind_some, f187Q h1, bo_0, f151N hS1]
  cases e : two (pe C) p q
  · rw [if_pos rfl]
    simpa using mQ_gd th_upd th_0
  · obtain ⟨i, j, hi, hj, hij, rfl, rfl⟩ := two_nI hk.1 e
    have h6 := hk.1
    obtain ⟨c, hg, hT, hM, hO⟩ := isC h (show 0 < pe C by omega)
    obtain ⟨τ, t1, t2, -, -, t5⟩ := f240_all hT hM hO hH
    have hS2 := t2.sh hS1
    rw [if_neg (by simp), if_pos rfl, pN_nI (show i < 6 by omega), pN_nI (show j < 6 by omega)]
    simp only [t1, Option.bind_some, acM hS2, show (6 : Int32) = nI 6 from rfl, pk_mul, nI_add, show 6 * i + j < 36 by omega, t5 i (by omega) j hj, f154N hS2]
    exact mQ_gd (th_upd.trans (ft_Q t2)) ((t2.2.1 102 0 rfl).trans th_0)
def P35 : Nat → Nat → Bool := fun a k => Nat.beq a 102 && Nat.beq k 35
theorem P35_Q {τ : xM} (h : Upd P35 σ τ) : Upd PmQ σ τ := h.mono (fun a k hq => by
  unfold PmQ at hq
  rw [Bool.or_eq_false_iff] at hq
  unfold P35
  rcases Bool.and_eq_false_iff.mp hq.2 with h2 | h2
  · rw [h2]; rfl
  · have h35 := List.any_eq_false.mp h2 35 (by simp)
    rw [beqF (show k ≠ 35 by simpa using h35)]
    simp)
theorem lo35 : lo P35 := fun a k ha => by
  unfold P35
  rw [beqF (show a ≠ 102 by omega)]
  rfl
/-- how much is left of a look, as the reference keeps it -/
def lkI (C : Cty) (o : Option Nat) : Int32 := match o with
  | none => -2
  | some k => nI (lef C k)
/-- the likeliest hour's part -/
theorem f244_41N (K : Nat → Int32 → Int32 → xM → Option (Int32 × xM)) (hS : Sh σ) (hO : OkC C) (ht : tlM σ C (cds C)) {k : Nat} (hk : k < nHe C) (b : Int32) : f244_41 K 1100 102 b (nI k) 0 0 σ = f244_83 K 102 b (nI k) (nI (lef C k)) σ := by
  have hcb := cds_b hO
  have hn := hO.2.2.2.2.2.2.2.2.2.2.2.1
  refine lp (fun m j => f244_41 K m 102 b (nI k) (nI (mxF (fun h => cnF (prt C k h) (cds C)) j)) (nI j) σ) 7 (fun j hj m r hn' => ?_) (fun m => ?_) 7 1100 0 rfl (by omega)
  · have hn' : f244_41 K m 102 b (nI k) (nI (mxF (fun h => cnF (prt C k h) (cds C)) (j + 1))) (nI (j + 1)) σ = r := hn'
    have b1 : mxF (fun h => cnF (prt C k h) (cds C)) j ≤ cds C := mxF_le j (fun i _ => cnF_le _ _)
    have b2 := cnF_le (prt C k j) (cds C)
    show f244_41 K (m + 1) _ _ _ _ _ _ = _
    rw [f244_41, if_neg (show ¬ (7 : Int32) ≤ nI j from nI_ge (b := 7) hj (by omega))]
    unfold f244_77
    rw [mxF] at hn'
    simp only [acM hS, Option.bind_some, show (7 : Int32) = nI 7 from rfl, pk_mul, nI_add, show 7 * k + j < 21 by omega, ht k hk j hj, nI_1]
    by_cases e : cnF (prt C k j) (cds C) ≤ mxF (fun h => cnF (prt C k h) (cds C)) j
    · rw [if_pos (nI_le e (by omega))]
      rw [Nat.max_eq_left e] at hn'
      exact hn'
    · rw [if_neg (nI_ge (by omega) (by omega))]
      rw [Nat.max_eq_right (by omega)] at hn'
      exact hn'
  · show f244_41 K (m + 1) _ _ _ _ _ _ = _
    rw [f244_41, if_pos (show (7 : Int32) ≤ nI 7 by decide)]
    rfl
/-- looks -/
theorem f244N (hT : hasT σ c) (hM : mC σ c C) (hO : OkC C) (hH : OkH C) : ∃ τ, f244 102 σ = some (ob (lok C), τ) ∧ Upd PmQ σ τ ∧ mI τ 102 35 = lkI C (lok C) ∧ mI τ 102 0 = mI σ 102 0 := by
  have hn := hO.2.2.2.2.2.2.2.2.2.2.2.1
  have hcb := cds_b hO
  have hcl := cnF_le (fok C) (cds C)
  obtain ⟨τ0, t1, t2, t3, t4, -⟩ := f240_all hT hM hO hH
  have hT0 := t2.hasT hT
  have hM0 := mC_lo t2 loFt hT.2.1.1 hM
  have hT1 : hasT (wI τ0 102 35 (-2)) c := hT0
  unfold f244
  simp only [acM hT.1, Option.bind_some, t1, acM hT0.1]
  have key : ∀ (m n j : Nat) (τ : xM), j + m = nHe C → m + 1 ≤ n → (cnF (fok C) (cds C) = 0 → j = 0) → Upd P35 τ0 τ → mI τ 102 35 = lkI C (miF (lef C) j) → ∃ τ', f244_18 n 102 (ob (miF (lef C) j)) (nI j) τ = some (ob (lok C), τ') ∧ Upd P35 τ0 τ' ∧ mI τ' 102 35 = lkI C (lok C) := by
    intro m
    induction m with
    | zero =>
      intro n j τ hj hn' h0 hu h35
      obtain ⟨n, rfl⟩ : ∃ i, n = i + 1 := ⟨n - 1, by omega⟩
      have hT' := hu.hasT hT0
      have hM' := mC_lo hu lo35 hT.2.1.1 hM0
      have hlok : lok C = miF (lef C) j := by
        unfold lok
        by_cases e : cnF (fok C) (cds C) = 0
        · rw [if_pos e, h0 e]
          rfl
        · rw [if_neg e, show nHe C = j by omega]
      refine ⟨τ, ?_, hu, by rw [hlok]; exact h35⟩
      rw [f244_18]
      simp only [acG hT', acT0 hT'.2.1, Option.bind_some, hM'.1.2.2.2.2.2.1]
      rw [if_pos (nI_le (by omega) (by omega)), hlok]
      rfl
    | succ m ih =>
      intro n j τ hj hn' h0 hu h35
      obtain ⟨n, rfl⟩ : ∃ i, n = i + 1 := ⟨n - 1, by omega⟩
      have hT' := hu.hasT hT0
      have hM' := mC_lo hu lo35 hT.2.1.1 hM0
      have hj' : j < nHe C := by omega
      have h33 : mI τ 102 33 = nI (cnF (fok C) (cds C)) := (hu.2.1 102 33 rfl).trans t3
      have ht' : tlM τ C (cds C) := fun k hk h hh => (hu.2.1 113 _ rfl).trans (t4 k hk h hh)
      rw [f244_18]
      simp only [acM hT'.1, acG hT', acT0 hT'.2.1, Option.bind_some, hM'.1.2.2.2.2.2.1, h33]
      rw [if_neg (nI_ge hj' (by omega))]
      by_cases e : cnF (fok C) (cds C) = 0
      · have hj0 := h0 e
        have hlok : lok C = miF (lef C) j := by
          unfold lok
          rw [if_pos e, hj0]
          rfl
        rw [e, if_pos (by decide), hlok]
        exact ⟨τ, rfl, hu, h35⟩
      · rw [if_neg (nI_nle (by omega) (by omega)), f244_41N (f244_18 n) hT'.1 hO ht' hj']
        have hlj := lef_le (C := C) j
        unfold f244_83 f244_100 f244_107
        simp only [acM hT'.1, Option.bind_some, h35, nI_1]
        have take : miF (lef C) (j + 1) = some j → ∃ τ', f244_18 n 102 (nI j) (nI (j + 1)) (wI τ 102 35 (nI (lef C j))) = some (ob (lok C), τ') ∧ Upd P35 τ0 τ' ∧ mI τ' 102 35 = lkI C (lok C) := fun hmi => by
          have := ih n (j + 1) (wI τ 102 35 (nI (lef C j))) (by omega) (by omega) (fun h => absurd h e) (hu.wI rfl) (by rw [mI_w, if_pos ⟨rfl, rfl⟩, hmi]; rfl)
          rw [hmi] at this
          exact this
        cases e3 : miF (lef C) j with
        | none =>
          rw [if_pos (show ob none = -2 from rfl)]
          exact take (by rw [miF, e3])
        | some b =>
          have hb := miF_lt _ _ e3
          have hlb := lef_le (C := C) b
          rw [if_neg (ob_ne (show b < 6 by omega))]
          by_cases e4 : lef C j < lef C b
          · rw [if_pos (show nI (lef C j) < lkI C (some b) from nI_lt e4 (by omega))]
            exact take (by rw [miF, e3]; simp [e4])
          · rw [if_neg (show ¬ nI (lef C j) < lkI C (some b) from nI_nlt (by omega) (by omega))]
            have hmi : miF (lef C) (j + 1) = some b := by rw [miF, e3]; simp [e4]
            have := ih n (j + 1) τ (by omega) (by omega) (fun h => absurd h e) hu (by rw [h35, hmi, e3])
            rw [hmi] at this
            exact this
  obtain ⟨τ', a1, a2, a3⟩ := key (nHe C) 1100 0 (wI τ0 102 35 (-2)) (by omega) (by omega) (fun _ => rfl) (Upd.refl.wI rfl) (by rw [mI_w, if_pos ⟨rfl, rfl⟩]; rfl)
  refine ⟨τ', a1, (ft_Q t2).trans (P35_Q a2), a3, ?_⟩
  rw [a2.2.1 102 0 rfl, t2.2.1 102 0 rfl]
theorem m245 (h : QM σ C s) (hH : OkH C) : mQ σ (f245 102 σ) (aLok C) := by
  have h1 := QM_upd th_upd h
  obtain ⟨hS1, hk, hv1, hc1⟩ := id h1
  unfold f245 f245_28 aLok
  simp only [acM h.1, Option.bind_some]
  rw [show wI σ 102 0 0 = th σ from rfl]
  by_cases e : 0 < pe C
  · obtain ⟨c, hg, hT, hM, hO⟩ := isC h e
    obtain ⟨τ, t1, t2, t3, t4⟩ := f244N hT hM hO hH
    have hS2 := t2.sh hS1
    rw [if_pos e]
    simp only [hg, Option.bind_some, acM hS1, t1, acM hS2, f154N hS2]
    exact mQ_gd (th_upd.trans t2) (t4.trans th_0)
  · rw [if_neg e]
    simp only [noC h e, Option.bind_some, acM hS1, f151N hS1]
    exact mQ_gd th_upd th_0
theorem m246 (h : QM σ C s) (hH : OkH C) : mQ σ (f246 102 σ) (aLol C) := by
  have h1 := QM_upd th_upd h
  obtain ⟨hS1, hk, hv1, hc1⟩ := id h1
  unfold f246 aLol
  simp only [acM h.1, Option.bind_some]
  rw [show wI σ 102 0 0 = th σ from rfl]
  by_cases e : 0 < pe C
  · obtain ⟨c, hg, hT, hM, hO⟩ := isC h e
    obtain ⟨τ, t1, t2, t3, t4⟩ := f244N hT hM hO hH
    have hS2 := t2.sh hS1
    rw [if_pos e]
    simp only [hg, Option.bind_some, acM hS1, t1, acM hS2, t3, f154N hS2]
    have : lkI C (lok C) = (match lok C with
      | some k => nI (lef C k)
      | none => -2) := by cases lok C <;> rfl
    rw [this]
    exact mQ_gd (th_upd.trans t2) (t4.trans th_0)
  · rw [if_neg e]
    simp only [noC h e, Option.bind_some, acM hS1, f151N hS1]
    exact mQ_gd th_upd th_0
end REF
