/-! TOURS in the reference: tour, tourHours, apart -/
theorem sub_leq : ∀ s, s < 64 → ∀ t, t < 64 → dif s t = 0 → s ≤ t := by decide +kernel
def Ptm : Nat → Nat → Bool := fun a k => Nat.beq a 105 || (Pme a k || (Pcm a k || (Nat.beq a 102 && Nat.beq k 29)))
theorem loTm : lo Ptm := fun a k ha => by
  unfold Ptm
  rw [loMe a k ha, loCm a k ha, beqF (show a ≠ 105 by omega), beqF (show a ≠ 102 by omega)]
  rfl
theorem tm_5 {σ τ : xM} (h : Upd P105 σ τ) : Upd Ptm σ τ := h.mono (fun a k hq => by
  unfold Ptm at hq
  rw [Bool.or_eq_false_iff] at hq
  exact hq.1)
theorem tm_me {σ τ : xM} (h : Upd Pme σ τ) : Upd Ptm σ τ := h.mono (fun a k hq => by
  unfold Ptm at hq
  simp only [Bool.or_eq_false_iff] at hq
  exact hq.2.1)
theorem tm_cm {σ τ : xM} (h : Upd Pcm σ τ) : Upd Ptm σ τ := h.mono (fun a k hq => by
  unfold Ptm at hq
  rw [Bool.or_eq_false_iff, Bool.or_eq_false_iff, Bool.or_eq_false_iff] at hq
  exact hq.2.2.1)
theorem tm_Q {σ τ : xM} (h : Upd Ptm σ τ) : Upd PmQ σ τ := h.mono (fun a k hq => by
  unfold PmQ at hq
  rw [Bool.or_eq_false_iff] at hq
  have g : ∀ b, b ∈ [105, 108, 109, 110, 111, 112, 113, 114] → a ≠ b := fun b hb h => by
    have := List.any_eq_false.mp hq.1 b hb
    rw [h] at this
    simp at this
  unfold Ptm Pme Pcm
  rw [beqF (g 105 (by simp)), beqF (g 108 (by simp)), beqF (g 109 (by simp)), beqF (g 110 (by simp)), beqF (g 111 (by simp))]
  rcases Bool.and_eq_false_iff.mp hq.2 with h2 | h2
  · rw [h2]; rfl
  · have h24 := List.any_eq_false.mp h2 24 (by simp)
    have h25 := List.any_eq_false.mp h2 25 (by simp)
    have h29 := List.any_eq_false.mp h2 29 (by simp)
    rw [beqF (show k ≠ 24 by simpa using h24), beqF (show k ≠ 25 by simpa using h25), beqF (show k ≠ 29 by simpa using h29)]
    simp)
def vtC (C : Cty) (s : Sta) (p S : Nat) : Nat := msN C (tS C s p S 6) p
/-- the hours of the best so far -/
noncomputable def roH (E : Nat → Nat) (p : Nat) (o : Option Nat) (x : Int32) : Prop := ∀ k, o = some k → x = nI (hrs E p k)
section REF
variable {σ : xM} {c : Nat} {s : Sta} {C : Cty}
theorem tS_more {p S : Nat} (hk : Ok (pe C) s) (hv : sub S (aska C s p)) : ∀ j, pe C ≤ j → tS C s p S j = tS C s p S (pe C) := by
  intro j
  induction j with
  | zero => intro h; rw [show pe C = 0 by omega]
  | succ j ih =>
    intro h
    by_cases e : pe C = j + 1
    · rw [e]
    · rw [tS, ih (by omega)]
      cases e2 : tb S j
      · rw [if_neg (by simp)]
      · have := hk.lvn (aska_of (hv j e2)).2.2.1
        omega
/-- the asks of one set -/
theorem f231_63N (K : Nat → Int32 → Int32 → Int32 → Int32 → Int64 → Int32 → xM → Option (Int32 × xM)) (hT : hasT σ c) (hM : mC σ c C) (hO : OkC C) (hk : Ok (pe C) s) (hh : hr s ≤ 999) (hx : mrow (mI σ 105) (pe C) s) {p S : Nat} (hp : p < pe C) (hS64 : S < 64) (hv : sub S (aska C s p)) (n can best hours : Int32) (most : Int64) : ∃ τ, f231_63 K 1100 102 (nI p) n can best most (nI S) hours 0 σ = f231_98 K 102 (nI p) n can best most (nI S) hours τ ∧ Upd P105 σ τ ∧ mrow (mI τ 105) (pe C) (tS C s p S 6) := by
  have h6 := hk.1
  refine lpI (fun m j τ => f231_63 K m 102 (nI p) n can best most (nI S) hours (nI j) τ) (pe C) (fun j τ => Upd P105 σ τ ∧ mrow (mI τ 105) (pe C) (tS C s p S j)) (fun o => ∃ τ, o = f231_98 K 102 (nI p) n can best most (nI S) hours τ ∧ Upd P105 σ τ ∧ mrow (mI τ 105) (pe C) (tS C s p S 6)) (fun j hj m τ hI => ?_) (fun m τ hI => ?_) (pe C) 1100 0 σ (by omega) (by omega) ⟨Upd.refl, hx⟩
  · obtain ⟨hu, hr⟩ := hI
    have hT' := hu.hasT hT
    have hM' := mC_lo hu lo105 hT.2.1.1 hM
    have hj6 : j < 6 := by omega
    obtain ⟨k1, k2, k3⟩ := tS_ok hp hk hh hv j (by omega)
    show ∃ τ', _ ∧ f231_63 K (m + 1) _ _ _ _ _ _ _ _ _ _ = f231_63 K m _ _ _ _ _ _ _ _ _ _
    rw [f231_63]
    unfold f231_92
    simp only [acM hT'.1, acG hT', acT0 hT'.2.1, Option.bind_some, hM'.1.2.2.1, f157N hS64 hj6, bo_0, nI_1]
    rw [if_neg (nI_ge hj (by omega)), tS]
    cases e : tb S j
    · rw [if_pos rfl, if_neg (by simp)]
      exact ⟨τ, ⟨hu, hr⟩, rfl⟩
    · obtain ⟨o1, o2, o3, o4⟩ := aska_of (hv j e)
      obtain ⟨υ, v1, v2, v3⟩ := f224N (C := C) ⟨hT', hM', hO, hr, k1⟩ hp hj o4
      rw [if_pos rfl, if_neg (by simp), v1, Option.bind_some]
      exact ⟨υ, ⟨hu.trans v2, v3⟩, rfl⟩
  · obtain ⟨hu, hr⟩ := hI
    have hT' := hu.hasT hT
    have hM' := mC_lo hu lo105 hT.2.1.1 hM
    refine ⟨τ, ?_, hu, by rw [tS_more hk hv 6 h6]; exact hr⟩
    show f231_63 K (m + 1) _ _ _ _ _ _ _ _ _ _ = _
    rw [f231_63]
    simp only [acG hT', acT0 hT'.2.1, Option.bind_some, hM'.1.2.2.1]
    rw [if_pos (nI_le (by omega) (by omega))]
/-- the best of the reference is the class's -/
theorem tou_m (hO : OkC C) (hk : Ok (pe C) s) (hh : hr s ≤ 999) {p n : Nat} (hp : p < pe C) (hpl : tb (lv s) p = true) : riF (vtC C s p) (touC C s p n) (aska C s p + 1) = riF (touV C s p) (touC C s p n) 64 := by
  have hcan := aska_lt C s p
  have hsc : ∀ S, S < aska C s p + 1 → touC C s p n S = true → vtC C s p S * reN s = touV C s p S := fun S hS hc => by
    obtain ⟨-, hs⟩ := touV_le hO hk hh hp (show S < 64 by omega) hc
    obtain ⟨k1, k2, -⟩ := tS_ok hp hk hh hs 6 (by omega)
    unfold vtC touV
    rw [← re_lv k2]
    exact me_ms hO k1 (by rw [k2]; exact hpl)
  rw [riF_scale (re_pos s) hsc]
  have hmore : ∀ j, aska C s p + 1 ≤ j → j ≤ 64 → riF (touV C s p) (touC C s p n) j = riF (touV C s p) (touC C s p n) (aska C s p + 1) := by
    intro j
    induction j with
    | zero => intro h; omega
    | succ j ih =>
      intro h1 h2
      by_cases e : aska C s p + 1 = j + 1
      · rw [e]
      · have hno : touC C s p n j = false := by
          unfold touC
          rw [Bool.and_eq_false_iff]
          refine Or.inl (decide_eq_false (fun h => ?_))
          have := sub_leq j (by omega) _ hcan h
          omega
        rw [riF, hno, ih (by omega) (by omega)]
        rfl
  exact (hmore 64 (by omega) (Nat.le_refl _)).symm
/-- bestTour -/
theorem f231N (hT : hasT σ c) (hM : mC σ c C) (hO : OkC C) (hv : mrow (mI σ 104) (pe C) s) (hk : Ok (pe C) s) (hh : hr s ≤ 999) {p n : Nat} (hp : p < pe C) (hpl : tb (lv s) p = true) (hn : n ≤ 12) : ∃ τ, f231 102 (nI p) (nI n) σ = some (nI (touK C s p n), τ) ∧ Upd Ptm σ τ ∧ mI τ 102 29 = nI (hrs (nr C) p (touK C s p n)) := by
  have h6 := hk.1
  have hcan := aska_lt C s p
  obtain ⟨kb, kb1, kb2, -, -⟩ := tou_ex C s n (show p < 6 by omega)
  have hV : ∀ S, S < 64 → touC C s p n S = true → vtC C s p S ≤ 594 * 1000000000000 ∧ sub S (aska C s p) := fun S hS hc => by
    obtain ⟨-, hs⟩ := touV_le hO hk hh hp hS hc
    obtain ⟨k1, k2, -⟩ := tS_ok hp hk hh hs 6 (by omega)
    exact ⟨ms_le hO k1 (by rw [k2]; exact hpl), hs⟩
  have main : ∃ τ, f231 102 (nI p) (nI n) σ = some (roB (riF (vtC C s p) (touC C s p n) (aska C s p + 1)), τ) ∧ Upd Ptm σ τ ∧ roH (nr C) p (riF (vtC C s p) (touC C s p n) (aska C s p + 1)) (mI τ 102 29) := by
    unfold f231
    simp only [acM hT.1, Option.bind_some, f199N hT hM hO hv hk hp]
    refine lpI (fun m j τ => f231_17 m 102 (nI p) (nI n) (nI (aska C s p)) (roB (riF (vtC C s p) (touC C s p n) j)) (roM (riF (vtC C s p) (touC C s p n) j) (vtC C s p)) (nI j) τ) (aska C s p + 1) (fun j τ => Upd Ptm σ τ ∧ roH (nr C) p (riF (vtC C s p) (touC C s p n) j) (mI τ 102 29)) (fun o => ∃ τ, o = some (roB (riF (vtC C s p) (touC C s p n) (aska C s p + 1)), τ) ∧ Upd Ptm σ τ ∧ roH (nr C) p (riF (vtC C s p) (touC C s p n) (aska C s p + 1)) (mI τ 102 29)) (fun j hj m τ hI => ?_) (fun m τ hI => ?_) (aska C s p + 1) 1100 0 σ (by omega) (by omega) ⟨Upd.refl, fun k h => by cases h⟩
    · obtain ⟨hu, hro⟩ := hI
      have hT' := hu.hasT hT
      have hM' := mC_lo hu loTm hT.2.1.1 hM
      have hv' := row_upd (a := 104) hu (fun _ => rfl) hv
      have hj64 : j < 64 := by omega
      have hb0 : ∀ k, riF (vtC C s p) (touC C s p n) j = some k → vtC C s p k < 2 ^ 63 := fun k e => by
        obtain ⟨a, b, -⟩ := riF_iff.mp e
        exact Nat.lt_of_le_of_lt (hV k (by omega) b).1 (by decide)
      have r1 : cO τ 102 9 = some () := by simp only [acM hT'.1]
      show ∃ τ', _ ∧ f231_17 (m + 1) _ _ _ _ _ _ _ _ = f231_17 m _ _ _ _ _ _ _ _
      rw [f231_17, if_neg (nI_nlt (by omega) (by omega)), difN j hj64 _ hcan]
      simp only [nI_0' _ (show dif j (aska C s p) < 2 ^ 31 from Nat.lt_trans (dif_lt hj64) (by decide))]
      have hskip : ∀ ω, Upd Ptm σ ω → mI ω 102 29 = mI τ 102 29 → touC C s p n j = false → ∃ τ', (Upd Ptm σ τ' ∧ roH (nr C) p (riF (vtC C s p) (touC C s p n) (j + 1)) (mI τ' 102 29)) ∧ f231_130 (f231_17 m) 102 (nI p) (nI n) (nI (aska C s p)) (roB (riF (vtC C s p) (touC C s p n) j)) (roM (riF (vtC C s p) (touC C s p n) j) (vtC C s p)) (nI j) ω = f231_17 m 102 (nI p) (nI n) (nI (aska C s p)) (roB (riF (vtC C s p) (touC C s p n) (j + 1))) (roM (riF (vtC C s p) (touC C s p n) (j + 1)) (vtC C s p)) (nI (j + 1)) τ' := fun ω hω h29 hno => by
        have e2 : riF (vtC C s p) (touC C s p n) (j + 1) = riF (vtC C s p) (touC C s p n) j := by
          rw [riF, hno]
          rfl
        rw [e2]
        unfold f231_130
        rw [nI_1]
        exact ⟨ω, ⟨hω, by rw [h29]; exact hro⟩, rfl⟩
      by_cases e0 : dif j (aska C s p) = 0
      · rw [if_pos e0, r1, Option.bind_some]
        obtain ⟨ω, w1, w2⟩ := f229N hT' hM' hO hp hj64 hn
        have hTω := w2.hasT hT'
        have hMω := mC_lo w2 loCm hT'.2.1.1 hM'
        have hvω := row_upd (a := 104) w2 (fun _ => rfl) hv'
        have h29ω : mI ω 102 29 = mI τ 102 29 := w2.2.1 102 29 rfl
        rw [w1, Option.bind_some]
        simp only
        by_cases e1 : hrs (nr C) p j ≤ n
        · have hc : touC C s p n j = true := by
            unfold touC
            rw [decide_eq_true e0, decide_eq_true e1]
            rfl
          obtain ⟨hVj0, hsub⟩ := hV j hj64 hc
          have hVj : vtC C s p j < 2 ^ 63 := Nat.lt_of_le_of_lt hVj0 (by decide)
          have hA := wk_AM hTω hMω hO hvω hk
          have uw := wk_upd (σ := ω)
          have hfw := f188N (σ := ω) hTω.1
          have r2 : cO ω 102 9 = some () := by simp only [acM hTω.1]
          rw [if_pos e1, if_neg (show ¬ nI (hrs (nr C) p j) = 9999 from fun h => by
            have := (nI_eq (a := hrs (nr C) p j) (b := 9999) (by omega) (by omega)).mp h
            omega), r2, Option.bind_some, hfw, Option.bind_some]
          generalize wk ω = ψ at hA uw hfw
          obtain ⟨ξ, x1, x2, x3⟩ := f231_63N (f231_17 m) hA.1 hA.2.1 hO hk hh hA.2.2.2.1 hp hj64 hsub (nI n) (nI (aska C s p)) (roB (riF (vtC C s p) (touC C s p n) j)) (nI (hrs (nr C) p j)) (roM (riF (vtC C s p) (touC C s p n) j) (vtC C s p))
          have hTξ := x2.hasT hA.1
          have hMξ := mC_lo x2 lo105 hA.1.2.1.1 hA.2.1
          obtain ⟨k1, k2, -⟩ := tS_ok hp hk hh hsub 6 (by omega)
          obtain ⟨υ, y1, y2, y3⟩ := f219N (C := C) (s := tS C s p j 6) ⟨hTξ, hMξ, hO, x3, k1⟩ hp
          have hTυ := y2.hasT hTξ
          have r3 : cO ξ 102 9 = some () := by simp only [acM hTξ.1]
          have r4 : ∀ z, pI υ 102 9 29 z = some (wI υ 102 29 z) := fun z => by simp only [acM hTυ.1]
          have uυ : Upd Ptm σ υ := hu.trans ((tm_cm w2).trans ((tm_5 uw).trans ((tm_5 x2).trans (tm_me y2))))
          have h29υ : mI υ 102 29 = mI τ 102 29 := (y2.2.1 102 29 rfl).trans ((x2.2.1 102 29 rfl).trans ((uw.2.1 102 29 rfl).trans h29ω))
          rw [x1]
          unfold f231_98 f231_130
          rw [r3, Option.bind_some, y1, Option.bind_some]
          simp only [lg_cmp_gt, nI_1]
          rw [show msN C (tS C s p j 6) p = vtC C s p j from rfl, r4, Option.bind_some, riF, hc]
          cases e3 : riF (vtC C s p) (touC C s p n) j with
          | none =>
            rw [if_pos (show roM none (vtC C s p) < lN (vtC C s p j) from Int64.not_le.mp (lN_m1 hVj))]
            refine ⟨wI υ 102 29 (nI (hrs (nr C) p j)), ⟨uυ.wI rfl, fun k hk => ?_⟩, rfl⟩
            rw [mI_w, if_pos ⟨rfl, rfl⟩]
            have hk : some j = some k := hk
            cases hk
            rfl
          | some k =>
            have hk' := hb0 k e3
            show ∃ τ'', _ ∧ (if lN (vtC C s p k) < lN (vtC C s p j) then _ else _) = _
            simp only [pk_lLT hk' hVj, mor, Bool.true_and]
            by_cases e4 : vtC C s p k < vtC C s p j
            · rw [if_pos e4, if_pos (by simpa using e4)]
              refine ⟨wI υ 102 29 (nI (hrs (nr C) p j)), ⟨uυ.wI rfl, fun k hk => ?_⟩, rfl⟩
              rw [mI_w, if_pos ⟨rfl, rfl⟩]
              cases hk
              rfl
            · rw [if_neg e4, if_neg (by simpa using e4)]
              rw [e3] at hro
              exact ⟨υ, ⟨uυ, by rw [h29υ]; exact hro⟩, rfl⟩
        · rw [if_neg e1, if_pos rfl]
          refine hskip ω (hu.trans (tm_cm w2)) h29ω ?_
          unfold touC
          rw [decide_eq_false e1, Bool.and_false]
      · rw [if_neg e0]
        refine hskip τ hu rfl ?_
        unfold touC
        rw [decide_eq_false e0, Bool.false_and]
    · obtain ⟨hu, hro⟩ := hI
      refine ⟨τ, ?_, hu, hro⟩
      show f231_17 (m + 1) _ _ _ _ _ _ _ _ = _
      rw [f231_17, if_pos (nI_lt (by omega) (by omega))]
      rfl
  rw [tou_m hO hk hh hp hpl, kb1] at main
  obtain ⟨τ, t1, t2, t3⟩ := main
  rw [kb2]
  exact ⟨τ, t1, t2, t3 kb rfl⟩
theorem m232 (h : QM σ C s) (hh : hr s ≤ 999) (p x : Int32) : mQ σ (f232 102 p x σ) (aTou C s p x) := by
  have h1 := QM_upd th_upd h
  obtain ⟨hS1, hk, hv1, hc1⟩ := id h1
  unfold f232 f232_37 aTou
  simp only [acM h.1, Option.bind_some]
  rw [show wI σ 102 0 0 = th σ from rfl]
  simp only [acM hS1, Option.bind_some, f226N h1, skOr_le, f151N hS1]
  by_cases e : skOr (pe C) s p (okN 0 12 x) = 0
  · obtain ⟨hb, j, hj, rfl, hl⟩ := skOr_0 hk e
    have hj6 : j < 6 := by have := hk.1; omega
    obtain ⟨n, n1, n2, rfl⟩ := okN_of (lo_ := 0) (hi := 12) (by decide) (by decide) hb
    obtain ⟨c, hg, hT, hM, hO⟩ := isC h (show 0 < pe C by omega)
    obtain ⟨τ, t1, t2, t3⟩ := f231N hT hM hO hv1 hk hh hj hl n2
    have hS2 := t2.sh hS1
    rw [if_pos e, if_pos e, pN_nI hj6, show pN (nI n) = n from nI_clamp (by omega)]
    simp only [t1, Option.bind_some, acM hS2, f154N hS2]
    exact mQ_gd (th_upd.trans (tm_Q t2)) ((t2.2.1 102 0 rfl).trans th_0)
  · rw [if_neg e, if_neg e]
    exact mQ_gd th_upd th_0
theorem m233 (h : QM σ C s) (hh : hr s ≤ 999) (p x : Int32) : mQ σ (f233 102 p x σ) (aToh C s p x) := by
  have h1 := QM_upd th_upd h
  obtain ⟨hS1, hk, hv1, hc1⟩ := id h1
  unfold f233 aToh
  simp only [acM h.1, Option.bind_some]
  rw [show wI σ 102 0 0 = th σ from rfl]
  simp only [acM hS1, Option.bind_some, f226N h1, skOr_le, f151N hS1]
  by_cases e : skOr (pe C) s p (okN 0 12 x) = 0
  · obtain ⟨hb, j, hj, rfl, hl⟩ := skOr_0 hk e
    have hj6 : j < 6 := by have := hk.1; omega
    obtain ⟨n, n1, n2, rfl⟩ := okN_of (lo_ := 0) (hi := 12) (by decide) (by decide) hb
    obtain ⟨c, hg, hT, hM, hO⟩ := isC h (show 0 < pe C by omega)
    obtain ⟨τ, t1, t2, t3⟩ := f231N hT hM hO hv1 hk hh hj hl n2
    have hS2 := t2.sh hS1
    rw [if_pos e, if_pos e, pN_nI hj6, show pN (nI n) = n from nI_clamp (by omega)]
    simp only [t1, Option.bind_some, acM hS2, t3, f154N hS2]
    exact mQ_gd (th_upd.trans (tm_Q t2)) ((t2.2.1 102 0 rfl).trans th_0)
  · rw [if_neg e, if_neg e]
    exact mQ_gd th_upd th_0
theorem m234 (h : QM σ C s) (p q : Int32) : mQ σ (f234 102 p q σ) (aApa C p q) := by
  have h1 := QM_upd th_upd h
  obtain ⟨hS1, hk, hv1, hc1⟩ := id h1
  unfold f234 f234_21 f234_52 aApa
  simp only [acM h.1, Option.bind_some]
  rw [show wI σ 102 0 0 = th σ from rfl]
  simp only [acM hS1, Option.bind_some, f186Q h1, bo_0, f151N hS1]
  cases e1 : isP (pe C) p
  · simpa using mQ_gd th_upd th_0
  · cases e2 : isP (pe C) q
    · simpa using mQ_gd th_upd th_0
    · obtain ⟨i, hi, rfl⟩ := isP_nI hk.1 e1
      obtain ⟨j, hj, rfl⟩ := isP_nI hk.1 e2
      have h6 := hk.1
      have hj6 : j < 6 := by omega
      have hi6 : i < 6 := by omega
      obtain ⟨c, hg, hT, hM, hO⟩ := isC h (show 0 < pe C by omega)
      have hE : ∀ x, x < 6 → nr C x < 64 := fun x hx => hO.nr64 hx
      have hw := way_ok hE
      have h2j : 2 ^ j < 64 := Nat.pow_lt_pow_right (a := 2) (by omega) (show j < 6 from hj6)
      obtain ⟨τ, t1, t2⟩ := f229N (S := 2 ^ j) (M := 6) hT hM hO hi h2j (by omega)
      have hS2 := t2.sh hS1
      have hd : hrs (nr C) i (2 ^ j) = wyF C (i * 6 + j) := by
        refine hrs_eq ?_
        have h3 := isD_one hw hi6 hj6
        refine ⟨h3.1, fun h => ⟨j, hj6, h3.2.1 h⟩, fun k q hq => ?_⟩
        obtain ⟨T, hT2, hs⟩ := hq
        obtain ⟨k', y, l, T', U, e1, e2, e3, e4, e5⟩ := wlk_first (s0 := j) (by rw [tb_pow]; simp) hT2 hs
        rw [tb_pow, decide_eq_true_eq] at e2
        rw [e2] at e3
        have := h3.2.2 k' ⟨T', e3, e4⟩
        omega
      rw [hd] at t1
      rw [pN_nI hi6, pN_nI hj6]
      simp only [shlN j hj6, show (6 : Int32) = nI 6 from rfl, t1, Option.bind_some, acM hS2, f154N hS2]
      rw [if_neg (by simp), if_neg (by simp)]
      have hb := wy_le (C := C) hE hi6 hj6
      have hq := mQ_gd (α := Int32) (x := if wyF C (i * 6 + j) < 1000 then nI (wyF C (i * 6 + j)) else -2) (r := 0) (th_upd.trans (tm_Q (tm_cm t2))) ((t2.2.1 102 0 rfl).trans th_0)
      by_cases e3 : wyF C (i * 6 + j) < 1000
      · have h66 := way_le hw hE hi6 hj6 e3
        rw [if_pos e3] at hq ⊢
        rw [if_pos h66, if_neg (show ¬ nI (wyF C (i * 6 + j)) = 9999 from fun h => by
          have := (nI_eq (a := wyF C (i * 6 + j)) (b := 9999) (by omega) (by omega)).mp h
          omega)]
        simpa using hq
      · rw [if_neg e3] at hq ⊢
        rw [if_neg (show ¬ wyF C (i * 6 + j) ≤ 6 by omega), if_pos rfl]
        simpa using hq
end REF
