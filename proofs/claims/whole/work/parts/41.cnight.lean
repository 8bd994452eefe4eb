/-! NIGHTS BY DRAWS: the class -/
def drw (x : Nat) : Nat := (75 * x + 74) % 65537
/-- seed and dying, j people on -/
def nsd (C : Cty) (s : Sta) : Nat → Nat × Nat
  | 0 => (sd s, 0)
  | j + 1 => if tb (lv s) j then (drw (nsd C s j).1, if drw (nsd C s j).1 % 100 < dz C j then (nsd C s j).2 ||| 2 ^ j else (nsd C s j).2) else nsd C s j
def ssd (s : Sta) (x : Nat) : Sta := (hs s, rg s, lv s, ct s, hr s, ng s, x)
theorem drw_le (x : Nat) : drw x ≤ 65536 := by
  unfold drw
  have := Nat.mod_lt (75 * x + 74) (show 0 < 65537 by decide)
  omega
theorem nsd_ok {C : Cty} {s : Sta} (hs0 : sd s ≤ 65536) : ∀ j, j ≤ 6 → (nsd C s j).1 ≤ 65536 ∧ (nsd C s j).2 < 64 ∧ sub (nsd C s j).2 (lv s) := by
  intro j
  induction j with
  | zero => intro _; exact ⟨hs0, by show 0 < 64; omega, fun i hi => by rw [show (nsd C s 0).2 = 0 from rfl, tb_0] at hi; cases hi⟩
  | succ j ih =>
    intro hj
    obtain ⟨h1, h2, h3⟩ := ih (by omega)
    unfold nsd
    split
    · rename_i hl
      refine ⟨drw_le _, ?_, ?_⟩
      · show (if _ then _ else _) < 64
        split
        · exact or_lt h2 (by omega)
        · exact h2
      · show sub (if _ then _ else _) _
        split
        · exact sub_or h3 hl
        · exact h3
    · exact ⟨h1, h2, h3⟩
/-- who dies, and what is so behind the night -/
def ngD (C : Cty) (s : Sta) : Nat := (nsd C s 6).2
def ngt (C : Cty) (s : Sta) : Sta := lea (ssd s (nsd C s 6).1) (ngD C s)
theorem ssd_ok {n : Nat} {s : Sta} {x : Nat} (hk : Ok n s) (hx : x ≤ 65536) : Ok n (ssd s x) := by
  obtain ⟨a1, a2, a3, a4, a5, a6, a7, a8, a9⟩ := hk
  exact ⟨a1, a2, a3, a4, a5, a6, a7, hx, a9⟩
theorem ngt_ok {C : Cty} {n : Nat} {s : Sta} (hk : Ok n s) : Ok n (ngt C s) := by
  obtain ⟨h1, h2, h3⟩ := nsd_ok (C := C) (s := s) hk.2.2.2.2.2.2.2.1 6 (by omega)
  exact lea_ok (ssd_ok hk h1) h2 h3
def Pnt (a : Nat) : Nat → Nat → Bool := fun x k => Pst a x k || Nat.beq x 93
theorem Pnt_st {a : Nat} {σ τ : xM} (h : Upd (Pst a) σ τ) : Upd (Pnt a) σ τ := h.mono (fun x k hq => by
  unfold Pnt at hq
  rw [Bool.or_eq_false_iff] at hq
  exact hq.1)
theorem Pnt_93 (a k : Nat) : Pnt a 93 k = true := by unfold Pnt; simp
theorem cS_ssd {σ : xM} {a n x : Nat} {s : Sta} (hc : cS σ a n s) : cS (wI σ a 1 (nI x)) a n (ssd s x) := by
  obtain ⟨c1, c2, c3, c4, c5, c6, c7⟩ := hc
  refine ⟨fun p hp => ?_, fun p hp q hq => ?_, ?_, ?_, ?_, ?_, ?_⟩
  · rw [mI_w, if_neg (by omega)]; exact c1 p hp
  · rw [mI_w, if_neg (by omega)]; exact c2 p hp q hq
  · rw [mI_w, if_neg (by omega)]; exact c3
  · rw [mI_w, if_neg (by omega)]; exact c4
  · rw [mI_w, if_neg (by omega)]; exact c5
  · rw [mI_w, if_neg (by omega)]; exact c6
  · rw [mI_w, if_pos ⟨rfl, rfl⟩]; rfl
/-- State.draw -/
theorem f50N {σ : xM} {a n : Nat} {s : Sta} (hS : Sh σ) (ha : a ∈ stL) (hc : cS σ a n s) (hk : Ok n s) : f50 a σ = some (nI (drw (sd s)), wI σ a 1 (nI (drw (sd s)))) := by
  have hb := hk.2.2.2.2.2.2.2.1
  have hS2 : Sh (wI σ a 1 (nI (drw (sd s)))) := hS
  unfold f50
  simp only [stA hS ha, Option.bind_some, hc.2.2.2.2.2.2, show (75 : Int32) = nI 75 from rfl, show (74 : Int32) = nI 74 from rfl, show (65537 : Int32) = nI 65537 from rfl, pk_mul, nI_add, rIN (show 75 * sd s + 74 < 2 ^ 31 by omega) (show 65537 ≠ 0 by omega) (show 65537 < 2 ^ 31 by omega)]
  rw [show (75 * sd s + 74) % 65537 = drw (sd s) from rfl]
  simp only [stA hS2 ha, Option.bind_some, mI_w, and_self, if_true]
/-- passNight -/
theorem f145N {σ : xM} {a : Nat} {C : Cty} {s : Sta} (ha : a = 26 ∨ a = 29) (hS : Sh σ) (hC : cC σ 15 C) (hO : OkC C) (hc : cS σ a (pe C) s) (hk : Ok (pe C) s) : ∃ τ, f145 0 a σ = some (nI (ngD C s), τ) ∧ Upd (Pnt a) σ τ ∧ cS τ a (pe C) (ngt C s) := by
  have h6 := hk.1
  have hal : a ∈ stL := by rcases ha with rfl | rfl <;> decide
  have h93 : 93 ≠ a ∧ 93 ≠ a + 1 ∧ 93 ≠ a + 2 := by rcases ha with rfl | rfl <;> decide
  have hCs : ∀ τ, Upd (Pst a) σ τ → cC τ 15 C := fun τ hu => cC_upd hu (fun i k hi => Pst_no k (by rcases ha with rfl | rfl <;> omega)) hC
  unfold f145
  refine lpI (fun m j τ => f145_4 m 0 a (nI (nsd C s j).2) (nI j) τ) 6 (fun j τ => Upd (Pst a) σ τ ∧ cS τ a (pe C) (ssd s (nsd C s j).1)) (fun o => ∃ τ, o = some (nI (ngD C s), τ) ∧ Upd (Pnt a) σ τ ∧ cS τ a (pe C) (ngt C s)) (fun j hj m τ hI => ?_) (fun m τ hI => ?_) 6 1100 0 σ rfl (by omega) ⟨Upd.refl, hc⟩
  · obtain ⟨hu, hc'⟩ := hI
    obtain ⟨n1, n2, n3⟩ := nsd_ok (C := C) (s := s) hk.2.2.2.2.2.2.2.1 j (by omega)
    have hS' := hu.sh hS
    have hk' := ssd_ok (x := (nsd C s j).1) hk n1
    have hC' := hCs τ hu
    show ∃ τ', _ ∧ f145_4 (m + 1) _ _ _ _ _ = f145_4 m _ _ _ _ _
    have hal' : f48 a (nI j) τ = some (bo (tb (lv s) j), τ) := f48N ha hS' hc' hk' hj
    cases e1 : tb (lv s) j
    · have e2 : nsd C s (j + 1) = nsd C s j := by
        rw [nsd, e1]
        rfl
      refine ⟨τ, ⟨hu, by rw [e2]; exact hc'⟩, ?_⟩
      rw [f145_4, if_neg (show ¬ (6 : Int32) ≤ nI j from nI_ge (b := 6) hj (by omega)), e2]
      simp only [stA hS' hal, Option.bind_some, hal', e1, bo_0, f145_43, nI_1]
      rw [if_pos trivial]
    · have e2 : nsd C s (j + 1) = (drw (nsd C s j).1, if drw (nsd C s j).1 % 100 < dz C j then (nsd C s j).2 ||| 2 ^ j else (nsd C s j).2) := by
        rw [nsd, e1]
        rfl
      have hjn := hk.lvn e1
      have hd := (hO.2.1 j hjn).2.2
      have hb := drw_le (nsd C s j).1
      have hS2 : Sh (wI τ a 1 (nI (drw (nsd C s j).1))) := hS'
      have hC2 := hCs _ (hu.wI (x := nI (drw (nsd C s j).1)) (Pst_0 a 1))
      refine ⟨wI τ a 1 (nI (drw (nsd C s j).1)), ⟨hu.wI (Pst_0 a 1), by rw [e2]; exact cS_ssd (s := ssd s (nsd C s j).1) (x := drw (nsd C s j).1) hc'⟩, ?_⟩
      rw [f145_4, if_neg (show ¬ (6 : Int32) ≤ nI j from nI_ge (b := 6) hj (by omega)), e2]
      have hf50 : f50 a τ = some (nI (drw (nsd C s j).1), wI τ a 1 (nI (drw (nsd C s j).1))) := f50N hS' hal hc' hk'
      simp only [stA hS' hal, Option.bind_some, hal', e1, bo_0, f145_43, nI_1, hf50, show (100 : Int32) = nI 100 from rfl, rIN (show drw (nsd C s j).1 < 2 ^ 31 by omega) (show 100 ≠ 0 by omega) (show 100 < 2 ^ 31 by omega), acC hS2, hj]
      rw [if_neg (by simp), show mI (wI τ a 1 (nI (drw (nsd C s j).1))) 18 j = nI (dz C j) from (hC2.2.1 j hjn).2.2]
      simp only [nI_leI (show dz C j < 2 ^ 31 by omega) (show drw (nsd C s j).1 % 100 < 2 ^ 31 by omega)]
      by_cases e3 : drw (nsd C s j).1 % 100 < dz C j
      · rw [if_neg (by omega), if_pos e3, orN _ n2 j hj]
      · rw [if_pos (by omega), if_neg e3]
  · obtain ⟨hu, hc'⟩ := hI
    obtain ⟨n1, n2, n3⟩ := nsd_ok (C := C) (s := s) hk.2.2.2.2.2.2.2.1 6 (by omega)
    have hS' := hu.sh hS
    have hk' := ssd_ok (x := (nsd C s 6).1) hk n1
    have hI36 : isI τ (a + 2) 36 := by
      obtain ⟨k1, k2, k3, k4, k5, k6, k7, k8, k9, k10⟩ := stL_ok a hal
      exact sh_a hS' k3 k8 k10
    have h57 := f57N hS' hI36 (show a + 2 ≠ 93 by omega) hc'.2.1 hk'
    have hSw := wl_sh (s := ssd s (nsd C s 6).1) hS'
    obtain ⟨υ, v1, v2, v3⟩ := f51N (D := ngD C s) hSw hal h93 (wl_cH τ (ssd s (nsd C s 6).1)) (wl_cS ha hc') hk' n2 n3
    refine ⟨υ, ?_, (Pnt_st hu).trans ((wl_upd Upd.refl (Pnt_93 a)).trans (Pnt_st v2)), v3⟩
    show f145_4 (m + 1) _ _ _ _ _ = _
    rw [f145_4, if_pos (show (6 : Int32) ≤ nI 6 by decide)]
    unfold f145_49
    simp only [acC hS', stA hS' hal, Option.bind_some, hc'.2.2.1, h57, acC hSw, stA hSw hal]
    rw [show f51 a (nI (nsd C s 6).2) 92 (wl τ (ssd s (nsd C s 6).1)) = some υ from v1]
    rfl
/-- so many nights -/
def ngs (C : Cty) (s : Sta) : Nat → Sta
  | 0 => s
  | j + 1 => ngt C (ngs C s j)
theorem ngs_ok {C : Cty} {n : Nat} {s : Sta} (hk : Ok n s) : ∀ j, Ok n (ngs C s j) := by
  intro j
  induction j with
  | zero => exact hk
  | succ j ih => exact ngt_ok ih
theorem P29_Q {σ τ : xM} (h : Upd (Pnt 29) σ τ) : Upd PcQ σ τ := h.mono (fun x k hq => by
  unfold PcQ at hq
  rw [Bool.or_eq_false_iff] at hq
  have g : ∀ b, b ∈ [29, 30, 31, 93, 95, 96, 97, 98, 99, 100, 101] → x ≠ b := fun b hb h => by
    have := List.any_eq_false.mp hq.1 b hb
    rw [h] at this
    simp at this
  unfold Pnt Pst
  rw [beqF (g 29 (by simp)), beqF (g 30 (by simp)), beqF (g 31 (by simp)), beqF (g 93 (by simp))]
  rfl)
section CLASS
variable {σ : xM} {C : Cty} {s : Sta}
/-- what a draw wants -/
def drOr (n : Nat) (x y : Int32) : Int32 := if 0 < n then (if (x < 0 ∨ 65536 < x) ∨ (y < 0 ∨ 60 < y) then 2 else 0) else 1
theorem f122N (h : QC σ C s) (x y : Int32) : f122 0 x y σ = some (drOr (pe C) x y, σ) := by
  obtain ⟨hS, hp, hc, hk, hC⟩ := id h
  unfold f122 f122_25 f122_26 f122_47 drOr
  simp only [acC hS, Option.bind_some, f115_eq hS hk.1 hp, bo_0]
  by_cases e : 0 < pe C <;> by_cases e1 : x < 0 <;> by_cases e2 : 65536 < x <;> by_cases e3 : y < 0 <;> by_cases e4 : 60 < y <;> simp [e, e1, e2, e3, e4]
theorem drOr_0 {n : Nat} {x y : Int32} (h : drOr n x y = 0) : 0 < n ∧ ∃ a b, a ≤ 65536 ∧ b ≤ 60 ∧ x = nI a ∧ y = nI b := by
  unfold drOr at h
  split at h
  · rename_i hn
    split at h
    · exact absurd h (by decide)
    · rename_i hx
      obtain ⟨a, ha, rfl⟩ := nI_of2 (M := 65536) (n := 65536) (x := x) rfl (fun h => hx (Or.inl (Or.inl h))) (Int32.not_lt.mp (fun h => hx (Or.inl (Or.inr h))))
      obtain ⟨b, hb, rfl⟩ := nI_of2 (M := 60) (n := 60) (x := y) rfl (fun h => hx (Or.inr (Or.inl h))) (Int32.not_lt.mp (fun h => hx (Or.inr (Or.inr h))))
      exact ⟨hn, a, b, ha, hb, rfl, rfl⟩
  · exact absurd h (by decide)
/-- sleep -/
theorem f144N (h : QC σ C s) (hp : 0 < pe C) {a b : Nat} (ha : a ≤ 65536) (hb : b ≤ 60) : ∃ τ, f144 0 (nI a) (nI b) σ = some τ ∧ Upd PcQ σ τ ∧ cS τ 29 (pe C) (ngs C (ssd s a) b) ∧ mI τ 0 8 = mI σ 0 8 := by
  obtain ⟨hS, hpe, hc, hk, hC⟩ := id h
  obtain ⟨hC, hO, -⟩ := hC hp
  obtain ⟨τ1, t1, t2, t3⟩ := f47N (a := 29) (b := 26) hS (by decide) (by decide) (by decide) (by decide) (by decide) (by decide) (by decide) hk.1 hc
  have hS1 := t2.sh hS
  unfold f144
  simp only [acC hS, Option.bind_some, t1, acC hS1]
  have u0 : Upd (Pnt 29) σ (wI τ1 29 1 (nI a)) := (Pnt_st t2).wI rfl
  refine lpI (fun m j τ => f144_21 m 0 (nI b) (nI j) τ) b (fun j τ => Upd (Pnt 29) σ τ ∧ cS τ 29 (pe C) (ngs C (ssd s a) j)) (fun o => ∃ τ, o = some τ ∧ Upd PcQ σ τ ∧ cS τ 29 (pe C) (ngs C (ssd s a) b) ∧ mI τ 0 8 = mI σ 0 8) (fun j hj m τ hI => ?_) (fun m τ hI => ?_) b 1100 0 _ (by omega) (by omega) ⟨u0, cS_ssd t3⟩
  · obtain ⟨hu, hc'⟩ := hI
    have hS' := hu.sh hS
    obtain ⟨hC', -, -⟩ := (QC_upd (P29_Q hu) h).2.2.2.2 hp
    obtain ⟨υ, v1, v2, v3⟩ := f145N (Or.inr rfl) hS' hC' hO hc' (ngs_ok (ssd_ok hk ha) j)
    refine ⟨υ, ⟨hu.trans v2, v3⟩, ?_⟩
    show f144_21 (m + 1) _ _ _ _ = f144_21 m _ _ _ _
    rw [f144_21, if_neg (nI_ge hj (by omega))]
    simp only [acC hS', Option.bind_some, v1, nI_1]
  · obtain ⟨hu, hc'⟩ := hI
    refine ⟨τ, ?_, P29_Q hu, hc', hu.2.1 0 8 rfl⟩
    show f144_21 (m + 1) _ _ _ _ = _
    rw [f144_21, if_pos (nI_le (by omega) (by omega))]
    rfl
def aNig (C : Cty) (s : Sta) (p x y : Int32) : Int32 × Int32 := if isP (pe C) p then (if drOr (pe C) x y = 0 then (nI (hs (ngs C (ssd s (pN x)) (pN y)) (pN p)), 0) else (-1, drOr (pe C) x y)) else (-1, 1)
def aLiv (C : Cty) (s : Sta) (x y : Int32) : Int32 × Int32 := if drOr (pe C) x y = 0 then (nI (lv (ngs C (ssd s (pN x)) (pN y))), 0) else (-1, drOr (pe C) x y)
theorem pN_any {a : Nat} (h : a ≤ 65536) : pN (nI a) = a := nI_clamp (by omega)
theorem c101 (h : QC σ C s) (p x y : Int32) : cQ σ (f101 0 p x y σ) (aNig C s p x y) := by
  obtain ⟨hS, hp, hc, hk, hC⟩ := id h
  unfold f101 f101_19 aNig
  simp only [acC hS, Option.bind_some, f116_eq hS hk.1 hp, f114_eq hS, bo_ref, bo_0, f122N h]
  cases e : isP (pe C) p
  · simpa using cQ_w
  · obtain ⟨j, hj, rfl⟩ := isP_nI hk.1 e
    have hj6 : j < 6 := by have := hk.1; omega
    rw [if_neg (by simp), if_pos rfl]
    by_cases e2 : drOr (pe C) x y = 0
    · obtain ⟨hn, a, b, ha, hb, rfl, rfl⟩ := drOr_0 e2
      obtain ⟨hS1, -⟩ := QC_w h 0
      obtain ⟨τ, t1, t2, t3, t4⟩ := f144N (QC_w h 0) hn ha hb
      have hS2 := t2.sh hS1
      rw [e2]
      rw [if_pos (by simp), if_pos (by simp), pN_any ha, pN_any (show b ≤ 65536 by omega), pN_nI hj6]
      simp only [acC hS1, Option.bind_some, t1, acC hS2, hj6]
      rw [show mI τ 30 j = nI (hs (ngs C (ssd s a) b) j) from t3.1 j hj]
      exact ⟨τ, rfl, (Upd.refl.wI rfl).trans t2, by rw [t4, mI_w, if_pos ⟨rfl, rfl⟩]⟩
    · rw [if_neg (by simp [e2]), if_neg e2]
      exact cQ_w
theorem c102 (h : QC σ C s) (x y : Int32) : cQ σ (f102 0 x y σ) (aLiv C s x y) := by
  obtain ⟨hS, hp, hc, hk, hC⟩ := id h
  unfold f102 aLiv
  simp only [acC hS, Option.bind_some, f114_eq hS, bo_ref, f122N h]
  by_cases e2 : drOr (pe C) x y = 0
  · obtain ⟨hn, a, b, ha, hb, rfl, rfl⟩ := drOr_0 e2
    obtain ⟨hS1, -⟩ := QC_w h 0
    obtain ⟨τ, t1, t2, t3, t4⟩ := f144N (QC_w h 0) hn ha hb
    have hS2 := t2.sh hS1
    rw [if_pos e2, if_pos e2, e2, pN_any ha, pN_any (show b ≤ 65536 by omega)]
    simp only [acC hS1, Option.bind_some, t1, acC hS2, t3.2.2.1]
    exact ⟨τ, rfl, (Upd.refl.wI rfl).trans t2, by rw [t4, mI_w, if_pos ⟨rfl, rfl⟩]⟩
  · rw [if_neg e2, if_neg e2]
    exact cQ_w
end CLASS
