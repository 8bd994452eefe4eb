/-! WHOM TO ASK: best and bestMean in the class -/
section CLASS
variable {σ : xM} {C : Cty} {s : Sta}
def P29 : Nat → Nat → Bool := Pnt 29
theorem P29_st {τ : xM} (h : Upd (Pst 29) σ τ) : Upd (Pnt 29) σ τ := Pnt_st h
/-- meanByRow -/
theorem f139N (h : QC σ C s) (hh : hr s ≤ 999) {p row : Nat} (hp : p < pe C) (hr : row < 1000) (hv : vrow (aska C s p) row = true) : ∃ τ, f139 0 (nI p) (nI row) σ = some (lN (meN C (rowS C s p row) p), τ) ∧ Upd (Pnt 29) σ τ := by
  obtain ⟨hS, hpe, hc, hk, hC⟩ := id h
  obtain ⟨hC, hO, -⟩ := hC (by omega)
  have hg : gv C ≤ 9 := hO.2.2.2.2.2.2.2.2.2.2.1
  unfold vrow at hv
  simp only [Bool.and_eq_true] at hv
  obtain ⟨v1, v2, v3⟩ := hv
  have g1 := vd_gd hk v1
  have g2 := vd_gd hk v2
  have g3 := vd_gd hk v3
  obtain ⟨τ0, t1, t2, t3⟩ := f47N (a := 29) (b := 26) hS (by decide) (by decide) (by decide) (by decide) (by decide) (by decide) (by decide) hk.1 hc
  have S0 := t2.sh hS
  have hgv : ∀ τ, Upd (Pst 29) σ τ → mI τ 15 1 = nI (gv C) := fun τ hu => (hu.2.1 15 1 rfl).trans hC.1.2.1
  obtain ⟨τ1, a1, a2, a3⟩ := f139_step (s := s) (u := 100) (m := 1099) (M := 1100) (U := 100) rfl rfl S0 (hgv _ t2) hg hp t3 hk rfl (by omega) (by omega) hr g1
  have S1 := a2.sh S0
  obtain ⟨k1, l1, r1⟩ := aG_ok hp hk rfl (by omega) g1
  have u1 := t2.trans a2
  obtain ⟨τ2, b1, b2, b3⟩ := f139_step (s := s) (u := 10) (m := 1098) (M := 1099) (U := nI 10) rfl rfl S1 (hgv _ u1) hg hp a3 k1 l1 (by omega) (by omega) hr g2
  have S2 := b2.sh S1
  obtain ⟨k2, l2, r2⟩ := aG_ok hp k1 l1 (by omega) g2
  have u2 := u1.trans b2
  obtain ⟨τ3, d1, d2, d3⟩ := f139_step (s := s) (u := 1) (m := 1097) (M := 1098) (U := nI 1) rfl rfl S2 (hgv _ u2) hg hp b3 k2 l2 (by omega) (by omega) hr (by rw [Nat.div_one]; exact g3)
  have S3 := d2.sh S2
  rw [Nat.div_one] at d3
  obtain ⟨k3, l3, r3⟩ := aG_ok hp k2 l2 (by omega) g3
  have u3 := u2.trans d2
  have hC3 : cC τ3 15 C := cC_upd u3 (fun i k hi => Pst_no k ⟨by omega, by omega, by omega⟩) hC
  rw [show rowS C s p row = aG C p (aG C p (aG C p s (row / 100 % 10)) (row / 10 % 10)) (row % 10) from rfl]
  refine ⟨wl τ3 (aG C p (aG C p (aG C p s (row / 100 % 10)) (row / 10 % 10)) (row % 10)), ?_, (Pnt_st u3).trans (wl_upd Upd.refl (Pnt_93 29))⟩
  have r1 : gR σ 0 7 3 = some 29 := by simp only [acC hS]
  have r2 : gR σ 0 7 2 = some 26 := by simp only [acC hS]
  have r3 : cO σ 29 4 = some () := by simp only [acC hS]
  unfold f139
  rw [r1, Option.bind_some, r2, Option.bind_some, r3, Option.bind_some, t1, Option.bind_some]
  rw [show 100 / 10 = 10 from rfl] at a1
  rw [show 10 / 10 = 1 from rfl] at b1
  rw [show 1 / 10 = 0 from rfl] at d1
  rw [a1, b1, d1, f139_end (m := 1096) rfl]
  unfold f139_66
  simp only [acC S3, Option.bind_some]
  rw [f133N (Or.inr rfl) S3 hC3 hO d3 k3 hp, Option.bind_some]
/-- the mean by a row -/
def roV (C : Cty) (s : Sta) (p row : Nat) : Nat := meN C (rowS C s p row) p
def roM (o : Option Nat) (v : Nat → Nat) : Int64 := match o with
  | none => -1
  | some k => lN (v k)
def roB (o : Option Nat) : Int32 := match o with
  | none => 0
  | some k => nI k
theorem rowS_ok {p row : Nat} (hk : Ok (pe C) s) (hh : hr s ≤ 999) (hp : p < pe C) (hv : vrow (aska C s p) row = true) : Ok (pe C) (rowS C s p row) := by
  unfold vrow at hv
  simp only [Bool.and_eq_true] at hv
  obtain ⟨v1, v2, v3⟩ := hv
  obtain ⟨k1, l1, r1⟩ := aG_ok hp hk rfl (by omega) (vd_gd hk v1)
  obtain ⟨k2, l2, r2⟩ := aG_ok hp k1 l1 (by omega) (vd_gd hk v2)
  exact (aG_ok hp k2 l2 (by omega) (vd_gd hk v3)).1
theorem lN_m1 {x : Nat} (hx : x < 2 ^ 63) : ¬ lN x ≤ -1 := fun h => by
  rw [Int64.le_iff_toInt_le, pk_lT hx] at h
  have : (-1 : Int64).toInt = -1 := by decide
  omega
theorem roM_ge {o : Option Nat} {v : Nat → Nat} (h : ∀ k, o = some k → v k < 2 ^ 63) : (-1 : Int64) ≤ roM o v := by
  cases o with
  | none => exact Int64.le_refl _
  | some k =>
    show (-1 : Int64) ≤ lN (v k)
    rw [Int64.le_iff_toInt_le, pk_lT (h k rfl)]
    have : (-1 : Int64).toInt = -1 := by decide
    omega
/-- bestRow's loop -/
theorem f137_46N (h : QC σ C s) (hh : hr s ≤ 999) {p N : Nat} (hp : p < pe C) (hN1 : N ≤ 1000) : ∃ τ, f137_46 1100 0 (nI p) (nI N) (nI (aska C s p)) 0 (-1) 0 σ = some (roB (riF (roV C s p) (mbF (aska C s p)) N), τ) ∧ Upd (Pnt 29) σ τ := by
  obtain ⟨hS, hpe, hc, hk, hC⟩ := id h
  obtain ⟨hC, hO, -⟩ := hC (by omega)
  have hcan := aska_lt C s p
  have hV : ∀ row, mbF (aska C s p) row = true → roV C s p row ≤ 594 * 1000000000000 := fun row hm => by
    unfold mbF at hm
    rw [Bool.and_eq_true] at hm
    exact me_le hO (rowS_ok hk hh hp hm.1) p
  refine lpI (fun m j τ => f137_46 m 0 (nI p) (nI N) (nI (aska C s p)) (roB (riF (roV C s p) (mbF (aska C s p)) j)) (roM (riF (roV C s p) (mbF (aska C s p)) j) (roV C s p)) (nI j) τ) N (fun _ τ => Upd (Pnt 29) σ τ) (fun o => ∃ τ, o = some (roB (riF (roV C s p) (mbF (aska C s p)) N), τ) ∧ Upd (Pnt 29) σ τ) (fun j hj m τ hu => ?_) (fun m τ hu => ?_) N 1100 0 σ (by omega) (by omega) Upd.refl
  · have hQ := QC_upd (P29_Q hu) h
    have hS' := hQ.1
    have hb : ∀ k, riF (roV C s p) (mbF (aska C s p)) j = some k → roV C s p k < 2 ^ 63 := fun k e => Nat.lt_of_le_of_lt (hV k (riF_iff.mp e).2.1) (by decide)
    show ∃ τ', Upd (Pnt 29) σ τ' ∧ f137_46 (m + 1) _ _ _ _ _ _ _ _ = f137_46 m _ _ _ _ _ _ _ _
    cases e1 : mbF (aska C s p) j
    · refine ⟨τ, hu, ?_⟩
      have e2 : riF (roV C s p) (mbF (aska C s p)) (j + 1) = riF (roV C s p) (mbF (aska C s p)) j := by
        rw [riF, e1]
        rfl
      rw [f137_46, if_neg (nI_ge hj (by omega)), f138N τ hcan (by omega), Option.bind_some, e2]
      simp only [e1, bo_0]
      rw [if_pos trivial]
      unfold f137_75 f137_93
      rw [if_pos ((lg_cmp_le _ _).mpr (roM_ge hb)), nI_1]
    · have hvr : vrow (aska C s p) j = true := by
        unfold mbF at e1
        rw [Bool.and_eq_true] at e1
        exact e1.1
      obtain ⟨υ, v1, v2⟩ := f139N hQ hh hp (show j < 1000 by omega) hvr
      have hVj : roV C s p j < 2 ^ 63 := Nat.lt_of_le_of_lt (hV j e1) (by decide)
      refine ⟨υ, hu.trans v2, ?_⟩
      rw [f137_46, if_neg (nI_ge hj (by omega)), f138N τ hcan (by omega), Option.bind_some]
      simp only [e1, bo_0]
      rw [if_neg (by simp)]
      simp only [acC hS', Option.bind_some, v1]
      unfold f137_75 f137_93
      simp only [lg_cmp_le, nI_1]
      rw [show meN C (rowS C s p j) p = roV C s p j from rfl, riF, e1]
      cases e3 : riF (roV C s p) (mbF (aska C s p)) j with
      | none =>
        show (if lN (roV C s p j) ≤ -1 then _ else _) = _
        rw [if_neg (lN_m1 hVj)]
        rfl
      | some k =>
        have hk' := hb k e3
        show (if lN (roV C s p j) ≤ lN (roV C s p k) then _ else _) = _
        simp only [pk_lLE hVj hk', mor, Bool.true_and]
        by_cases e4 : roV C s p j ≤ roV C s p k
        · have : ¬ roV C s p k < roV C s p j := by omega
          rw [if_pos e4, if_neg (by simpa using this)]
        · have : roV C s p k < roV C s p j := by omega
          rw [if_neg e4, if_pos (by simpa using this)]
          rfl
  · refine ⟨τ, ?_, hu⟩
    show f137_46 (m + 1) _ _ _ _ _ _ _ _ = _
    rw [f137_46, if_pos (nI_le (by omega) (by omega))]
    rfl
/-- bestRow -/
theorem f137N (h : QC σ C s) (hh : hr s ≤ 999) {p n : Nat} (hp : p < pe C) (hn : 1 ≤ n ∧ n ≤ 3) : ∃ τ, f137 0 (nI p) (nI n) σ = some (roB (riF (roV C s p) (mbF (aska C s p)) (10 ^ n)), τ) ∧ Upd (Pnt 29) σ τ := by
  obtain ⟨hS, hpe, hc, hk, hC⟩ := id h
  obtain ⟨hC, hO, -⟩ := hC (by omega)
  have e0 : f137 0 (nI p) (nI n) σ = f137_28 0 (nI p) (nI (10 ^ n)) σ := by
    unfold f137
    refine lp (fun m j => f137_5 m 0 (nI p) (nI n) (nI (10 ^ j)) (nI j) σ) n (fun j hj m r hn' => ?_) (fun m => ?_) n 1100 0 (by omega) (by omega)
    · have hn' : f137_5 m 0 (nI p) (nI n) (nI (10 ^ (j + 1))) (nI (j + 1)) σ = r := hn'
      show f137_5 (m + 1) _ _ _ _ _ _ = _
      rw [f137_5, if_neg (nI_ge hj (by omega)), if_neg (show ¬ (3 : Int32) ≤ nI j from nI_ge (b := 3) (by omega) (by omega)), show (10 : Int32) = nI 10 from rfl, pk_mul, nI_1, ← Nat.pow_succ]
      exact hn'
    · show f137_5 (m + 1) _ _ _ _ _ _ = _
      rw [f137_5, if_pos (nI_le (by omega) (by omega))]
  rw [e0]
  unfold f137_28
  simp only [acC hS, Option.bind_some, f126_eq hS hC hO hc hk hp]
  exact f137_46N h hh hp (show 10 ^ n ≤ 10 ^ 3 from Nat.pow_le_pow_right (by decide) hn.2)
end CLASS
