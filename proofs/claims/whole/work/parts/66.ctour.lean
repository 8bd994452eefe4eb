/-! TOURS in the class: tour, tourHours -/
/-- who asks all of a set, one behind another -/
def tS (C : Cty) (s : Sta) (p S : Nat) : Nat → Sta
  | 0 => s
  | j + 1 => if tb S j then giv (tS C s p S j) (gv C) p j else tS C s p S j
theorem tS_ok {C : Cty} {s : Sta} {p S : Nat} (hp : p < pe C) (hk : Ok (pe C) s) (hh : hr s ≤ 999) (hv : sub S (aska C s p)) : ∀ j, j ≤ 6 → Ok (pe C) (tS C s p S j) ∧ lv (tS C s p S j) = lv s ∧ hr (tS C s p S j) ≤ hr s + j := by
  intro j
  induction j with
  | zero => intro _; exact ⟨hk, rfl, Nat.le_refl _⟩
  | succ j ih =>
    intro hj
    obtain ⟨a, b, d⟩ := ih (by omega)
    rw [tS]
    cases e : tb S j
    · rw [if_neg (by simp)]
      exact ⟨a, b, by omega⟩
    · obtain ⟨o1, o2, o3, o4⟩ := aska_of (hv j e)
      rw [if_pos rfl]
      exact ⟨giv_ok a (by omega) hp (hk.lvn o3) o4 (by rw [b]; exact o2) (by rw [b]; exact o3), b, by show hr (tS C s p S j) + 1 ≤ _; omega⟩
noncomputable def touC (C : Cty) (s : Sta) (p n S : Nat) : Bool := decide (dif S (aska C s p) = 0) && decide (hrs (nr C) p S ≤ n)
def touV (C : Cty) (s : Sta) (p S : Nat) : Nat := meN C (tS C s p S 6) p
def Ptr : Nat → Nat → Bool := fun x k => Pnt 29 x k || Nat.beq x 95
theorem tr_nt {σ τ : xM} (h : Upd (Pnt 29) σ τ) : Upd Ptr σ τ := h.mono (fun a k hq => by
  unfold Ptr at hq
  rw [Bool.or_eq_false_iff] at hq
  exact hq.1)
theorem tr_95 {σ τ : xM} (h : Upd P95 σ τ) : Upd Ptr σ τ := h.mono (fun a k hq => by
  unfold Ptr at hq
  rw [Bool.or_eq_false_iff] at hq
  exact hq.2)
theorem tr_Q {σ τ : xM} (h : Upd Ptr σ τ) : Upd PcQ σ τ := h.mono (fun a k hq => by
  unfold PcQ at hq
  rw [Bool.or_eq_false_iff] at hq
  have g : ∀ b, b ∈ [29, 30, 31, 93, 95, 96, 97, 98, 99, 100, 101] → a ≠ b := fun b hb h => by
    have := List.any_eq_false.mp hq.1 b hb
    rw [h] at this
    simp at this
  unfold Ptr Pnt Pst
  rw [beqF (g 29 (by simp)), beqF (g 30 (by simp)), beqF (g 31 (by simp)), beqF (g 93 (by simp)), beqF (g 95 (by simp))]
  rfl)
section CLASS
variable {σ : xM} {C : Cty} {s : Sta}
/-- meanByTour -/
theorem f141N (h : QC σ C s) (hh : hr s ≤ 999) {p S : Nat} (hp : p < pe C) (hS64 : S < 64) (hv : sub S (aska C s p)) : ∃ τ, f141 0 (nI p) (nI S) σ = some (lN (touV C s p S), τ) ∧ Upd (Pnt 29) σ τ := by
  obtain ⟨hS, hpe, hc, hk, hC⟩ := id h
  obtain ⟨hC, hO, -⟩ := hC (by omega)
  have hg : gv C ≤ 9 := hO.2.2.2.2.2.2.2.2.2.2.1
  obtain ⟨τ0, t1, t2, t3⟩ := f47N (a := 29) (b := 26) hS (by decide) (by decide) (by decide) (by decide) (by decide) (by decide) (by decide) hk.1 hc
  have r1 : gR σ 0 7 3 = some 29 := by simp only [acC hS]
  have r2 : gR σ 0 7 2 = some 26 := by simp only [acC hS]
  have r3 : cO σ 29 4 = some () := by simp only [acC hS]
  unfold f141
  rw [r1, Option.bind_some, r2, Option.bind_some, r3, Option.bind_some, t1, Option.bind_some]
  refine lpI (fun m j τ => f141_13 m 0 (nI p) (nI S) (nI j) τ) 6 (fun j τ => Upd (Pst 29) σ τ ∧ cS τ 29 (pe C) (tS C s p S j)) (fun o => ∃ τ, o = some (lN (touV C s p S), τ) ∧ Upd (Pnt 29) σ τ) (fun j hj m τ hI => ?_) (fun m τ hI => ?_) 6 1100 0 τ0 rfl (by omega) ⟨t2, t3⟩
  · obtain ⟨hu, hcj⟩ := hI
    have hS' := hu.sh hS
    obtain ⟨k1, k2, k3⟩ := tS_ok hp hk hh hv j (by omega)
    show ∃ τ', _ ∧ f141_13 (m + 1) _ _ _ _ _ = f141_13 m _ _ _ _ _
    rw [f141_13, if_neg (show ¬ (6 : Int32) ≤ nI j from nI_ge (b := 6) hj (by omega)), f124N hS64 hj, Option.bind_some]
    unfold f141_44
    simp only [bo_0, nI_1]
    rw [tS]
    cases e : tb S j
    · rw [if_pos rfl, if_neg (by simp)]
      exact ⟨τ, ⟨hu, hcj⟩, rfl⟩
    · obtain ⟨o1, o2, o3, o4⟩ := aska_of (hv j e)
      obtain ⟨υ, v1, v2, v3⟩ := f49N (a := 29) (g := gv C) hS' (by decide) hcj k1 hp (hk.lvn o3) o4 hg
      have hgv : mI τ 15 1 = nI (gv C) := (hu.2.1 15 1 rfl).trans hC.1.2.1
      rw [if_pos rfl, if_neg (by simp)]
      simp only [acC hS', Option.bind_some, hgv, v1]
      exact ⟨υ, ⟨hu.trans v2, v3⟩, rfl⟩
  · obtain ⟨hu, hcj⟩ := hI
    have hS' := hu.sh hS
    obtain ⟨k1, k2, k3⟩ := tS_ok hp hk hh hv 6 (by omega)
    have hC3 : cC τ 15 C := cC_upd hu (fun i k hi => Pst_no k ⟨by omega, by omega, by omega⟩) hC
    refine ⟨wl τ (tS C s p S 6), ?_, (Pnt_st hu).trans (wl_upd Upd.refl (Pnt_93 29))⟩
    show f141_13 (m + 1) _ _ _ _ _ = _
    rw [f141_13, if_pos (show (6 : Int32) ≤ nI 6 by decide)]
    unfold f141_50
    simp only [acC hS', Option.bind_some]
    rw [f133N (Or.inr rfl) hS' hC3 hO hcj k1 hp, Option.bind_some]
    rfl
theorem touV_le (hO : OkC C) (hk : Ok (pe C) s) (hh : hr s ≤ 999) {p n S : Nat} (hp : p < pe C) (hS64 : S < 64) (hc : touC C s p n S = true) : touV C s p S ≤ 594 * 1000000000000 ∧ sub S (aska C s p) := by
  unfold touC at hc
  rw [Bool.and_eq_true, decide_eq_true_eq] at hc
  have hs := (dif_0 hS64 (aska_lt C s p)).mp hc.1
  exact ⟨me_le hO (tS_ok hp hk hh hs 6 (by omega)).1 p, hs⟩
/-- bestTour -/
theorem f140N (h : QC σ C s) (hh : hr s ≤ 999) {p n : Nat} (hp : p < pe C) (hn : n ≤ 12) : ∃ τ, f140 0 (nI p) (nI n) σ = some (roB (riF (touV C s p) (touC C s p n) 64), τ) ∧ Upd Ptr σ τ ∧ tab τ C p := by
  obtain ⟨hS, hpe, hc, hk, hC⟩ := id h
  obtain ⟨hC, hO, hwy⟩ := hC (by omega)
  have h6 := hk.1
  have hE : ∀ x, x < 6 → nr C x < 64 := fun x hx => hO.nr64 hx
  have hcan := aska_lt C s p
  obtain ⟨τ0, t1, t2, t3⟩ := f53N hS hwy hE (show p < 6 by omega)
  have hQ0 := QC_upd (tr_Q (tr_95 t2)) h
  have hC0 := (hQ0.2.2.2.2 (by omega)).1
  unfold f140
  simp only [acC hS, acW hS, Option.bind_some, t1, acC hQ0.1, f126_eq hQ0.1 hC0 hO hQ0.2.2.1 hk hp]
  refine lpI (fun m j τ => f140_32 m 0 (nI p) (nI n) (nI (aska C s p)) (roB (riF (touV C s p) (touC C s p n) j)) (roM (riF (touV C s p) (touC C s p n) j) (touV C s p)) (nI j) τ) 64 (fun _ τ => Upd Ptr σ τ ∧ tab τ C p) (fun o => ∃ τ, o = some (roB (riF (touV C s p) (touC C s p n) 64), τ) ∧ Upd Ptr σ τ ∧ tab τ C p) (fun j hj m τ hI => ?_) (fun m τ hI => ?_) 64 1100 0 τ0 rfl (by omega) ⟨tr_95 t2, t3⟩
  · obtain ⟨hu, ht⟩ := hI
    have hQ := QC_upd (tr_Q hu) h
    have hS' := hQ.1
    obtain ⟨g1, g2⟩ := f55N hS' hE (show p < 6 by omega) hj ht
    have hb : ∀ k, riF (touV C s p) (touC C s p n) j = some k → touV C s p k < 2 ^ 63 := fun k e => by
      obtain ⟨a, b, -⟩ := riF_iff.mp e
      exact Nat.lt_of_le_of_lt (touV_le hO hk hh hp (by omega) b).1 (by decide)
    show ∃ τ', _ ∧ f140_32 (m + 1) _ _ _ _ _ _ _ _ = f140_32 m _ _ _ _ _ _ _ _
    cases e1 : touC C s p n j
    · have e2 : riF (touV C s p) (touC C s p n) (j + 1) = riF (touV C s p) (touC C s p n) j := by
        rw [riF, e1]
        rfl
      refine ⟨τ, ⟨hu, ht⟩, ?_⟩
      have hno : f140_65 (f140_32 m) 0 (nI p) (nI n) (nI (aska C s p)) (roB (riF (touV C s p) (touC C s p n) j)) (roM (riF (touV C s p) (touC C s p n) j) (touV C s p)) (nI j) τ = f140_32 m 0 (nI p) (nI n) (nI (aska C s p)) (roB (riF (touV C s p) (touC C s p n) j)) (roM (riF (touV C s p) (touC C s p n) j) (touV C s p)) (nI (j + 1)) τ := by
        unfold f140_65 f140_66 f140_86 f140_104
        rw [if_pos rfl, if_pos ((lg_cmp_le _ _).mpr (roM_ge hb)), nI_1]
      rw [f140_32, if_neg (show ¬ (64 : Int32) ≤ nI j from nI_ge (b := 64) hj (by omega)), difN j hj _ hcan, e2]
      simp only [nI_0' _ (show dif j (aska C s p) < 2 ^ 31 from Nat.lt_trans (dif_lt hj) (by decide)), acC hS', acW hS', Option.bind_some, g1, hno]
      by_cases e3 : dif j (aska C s p) = 0
      · have e4 : ¬ hrs (nr C) p j ≤ n := fun h => by
          unfold touC at e1
          rw [decide_eq_true e3, decide_eq_true h] at e1
          cases e1
        rw [if_pos e3, if_pos (nI_lt (by omega) (by omega))]
      · rw [if_neg e3]
    · obtain ⟨hV, hsub⟩ := touV_le hO hk hh hp hj e1
      obtain ⟨υ, v1, v2⟩ := f141N hQ hh hp hj hsub
      have hVj : touV C s p j < 2 ^ 63 := Nat.lt_of_le_of_lt hV (by decide)
      refine ⟨υ, ⟨hu.trans (tr_nt v2), tab_upd v2 (fun _ => rfl) ht⟩, ?_⟩
      have e1' := e1
      unfold touC at e1'
      rw [Bool.and_eq_true, decide_eq_true_eq, decide_eq_true_eq] at e1'
      rw [f140_32, if_neg (show ¬ (64 : Int32) ≤ nI j from nI_ge (b := 64) hj (by omega)), difN j hj _ hcan]
      simp only [nI_0' _ (show dif j (aska C s p) < 2 ^ 31 from Nat.lt_trans (dif_lt hj) (by decide)), acC hS', acW hS', Option.bind_some, g1]
      rw [if_pos e1'.1, if_neg (nI_nlt e1'.2 (by omega))]
      unfold f140_66 f140_86 f140_104
      rw [if_neg (by decide)]
      simp only [acC hS', Option.bind_some, v1, lg_cmp_le, nI_1]
      rw [riF, e1]
      cases e3 : riF (touV C s p) (touC C s p n) j with
      | none =>
        show (if lN (touV C s p j) ≤ -1 then _ else _) = _
        rw [if_neg (lN_m1 hVj)]
        rfl
      | some k =>
        have hk' := hb k e3
        show (if lN (touV C s p j) ≤ lN (touV C s p k) then _ else _) = _
        simp only [pk_lLE hVj hk', mor, Bool.true_and]
        by_cases e4 : touV C s p j ≤ touV C s p k
        · have : ¬ touV C s p k < touV C s p j := by omega
          rw [if_pos e4, if_neg (by simpa using this)]
        · have : touV C s p k < touV C s p j := by omega
          rw [if_neg e4, if_pos (by simpa using this)]
          rfl
  · obtain ⟨hu, ht⟩ := hI
    refine ⟨τ, ?_, hu, ht⟩
    show f140_32 (m + 1) _ _ _ _ _ _ _ _ = _
    rw [f140_32, if_pos (show (64 : Int32) ≤ nI 64 by decide)]
    rfl
end CLASS
noncomputable def touK (C : Cty) (s : Sta) (p n : Nat) : Nat := (riF (touV C s p) (touC C s p n) 64).getD 0
noncomputable def aTou (C : Cty) (s : Sta) (p x : Int32) : Int32 × Int32 := if skOr (pe C) s p (okN 0 12 x) = 0 then (nI (touK C s (pN p) (pN x)), 0) else (-1, skOr (pe C) s p (okN 0 12 x))
noncomputable def aToh (C : Cty) (s : Sta) (p x : Int32) : Int32 × Int32 := if skOr (pe C) s p (okN 0 12 x) = 0 then (nI (hrs (nr C) (pN p) (touK C s (pN p) (pN x))), 0) else (-1, skOr (pe C) s p (okN 0 12 x))
theorem tou_ex (C : Cty) (s : Sta) {p : Nat} (n : Nat) (hp : p < 6) : ∃ k, riF (touV C s p) (touC C s p n) 64 = some k ∧ touK C s p n = k ∧ k < 64 ∧ touC C s p n k = true := by
  have h0 : touC C s p n 0 = true := by
    unfold touC
    rw [hrs_eq (isH_0 hp), show dif 0 (aska C s p) = 0 from Nat.zero_and _]
    simp
  obtain ⟨k, hk⟩ := riF_ex (v := touV C s p) (c := touC C s p n) (i := 0) h0 (N := 64) (by omega)
  exact ⟨k, hk, by unfold touK; rw [hk]; rfl, (riF_iff.mp hk).1, (riF_iff.mp hk).2.1⟩
section CLASS
variable {σ : xM} {C : Cty} {s : Sta}
theorem c87 (h : QC σ C s) (hh : hr s ≤ 999) (p x : Int32) : cQ σ (f87 0 p x σ) (aTou C s p x) := by
  obtain ⟨hS, hp, hc, hk, hC⟩ := id h
  have e0 : f87 0 p x σ = f87_18 0 p x (bo (okN 0 12 x)) p 0 0 σ := by
    unfold f87 f87_17 okN
    by_cases e1 : x < 0 <;> by_cases e2 : 12 < x <;> simp [e1, e2, bo]
  rw [e0]
  unfold f87_18 aTou
  simp only [acC hS, Option.bind_some, f120N h, f114_eq hS, bo_ref]
  by_cases e : skOr (pe C) s p (okN 0 12 x) = 0
  · obtain ⟨hb, j, hj, rfl, hl⟩ := skOr_0 hk e
    have hj6 : j < 6 := by have := hk.1; omega
    obtain ⟨n, n1, n2, rfl⟩ := okN_of (lo_ := 0) (hi := 12) (by decide) (by decide) hb
    obtain ⟨hS1, -⟩ := QC_w h 0
    obtain ⟨τ, t1, t2, t3⟩ := f140N (QC_w h 0) hh hj n2
    obtain ⟨k, k1, k2, k3, k4⟩ := tou_ex C s n hj6
    rw [if_pos e, if_pos e, e, pN_nI hj6, show pN (nI n) = n from nI_clamp (by omega), k2]
    simp only [acC hS1, Option.bind_some, t1, k1]
    refine ⟨τ, rfl, (Upd.refl.wI rfl).trans (tr_Q t2), ?_⟩
    rw [t2.2.1 0 8 rfl, mI_w, if_pos ⟨rfl, rfl⟩]
  · rw [if_neg e, if_neg e]
    exact cQ_w
theorem c88 (h : QC σ C s) (hh : hr s ≤ 999) (p x : Int32) : cQ σ (f88 0 p x σ) (aToh C s p x) := by
  obtain ⟨hS, hp, hc, hk, hC⟩ := id h
  have e0 : f88 0 p x σ = f88_18 0 p x (bo (okN 0 12 x)) p 0 0 σ := by
    unfold f88 f88_17 okN
    by_cases e1 : x < 0 <;> by_cases e2 : 12 < x <;> simp [e1, e2, bo]
  rw [e0]
  unfold f88_18 aToh
  simp only [acC hS, Option.bind_some, f120N h, f114_eq hS, bo_ref]
  by_cases e : skOr (pe C) s p (okN 0 12 x) = 0
  · obtain ⟨hb, j, hj, rfl, hl⟩ := skOr_0 hk e
    have hj6 : j < 6 := by have := hk.1; omega
    obtain ⟨n, n1, n2, rfl⟩ := okN_of (lo_ := 0) (hi := 12) (by decide) (by decide) hb
    obtain ⟨hC, hO, -⟩ := hC (by omega)
    obtain ⟨hS1, -⟩ := QC_w h 0
    obtain ⟨τ, t1, t2, t3⟩ := f140N (QC_w h 0) hh hj n2
    obtain ⟨k, k1, k2, k3, k4⟩ := tou_ex C s n hj6
    have hS2 := t2.sh hS1
    have g := (f55N hS2 (fun x hx => hO.nr64 hx) hj6 k3 t3).1
    rw [if_pos e, if_pos e, e, pN_nI hj6, show pN (nI n) = n from nI_clamp (by omega), k2]
    simp only [acC hS1, Option.bind_some, t1, k1, acW hS2]
    rw [show roB (some k) = nI k from rfl, g, Option.bind_some]
    refine ⟨τ, rfl, (Upd.refl.wI rfl).trans (tr_Q t2), ?_⟩
    rw [t2.2.1 0 8 rfl, mI_w, if_pos ⟨rfl, rfl⟩]
  · rw [if_neg e, if_neg e]
    exact cQ_w
end CLASS
