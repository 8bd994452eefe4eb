/-! ACTS: the class -/
/-- what an act may write: all that a call that asks may, what is NOW, what was and is kept -/
def PcA : Nat → Nat → Bool := fun a k => PcQ a k || (Nat.ble 26 a && Nat.ble a 101)
/-- an act's outcome: answer, refusal, what is so NOW, what can be undone, images -/
abbrev Act : Type := Int32 × Int32 × Sta × (Nat → Sta) × Nat × (Nat → Sta) × Nat
def cA (σ : xM) (C : Cty) (o : Option (Int32 × xM)) (x : Act) : Prop := ∃ τ, o = some (x.1, τ) ∧ Upd PcA σ τ ∧ mI τ 0 8 = x.2.1 ∧ cS τ 26 (pe C) x.2.2.1 ∧ cP τ (pe C) x.2.2.2.1 x.2.2.2.2.1 ∧ cI τ (pe C) x.2.2.2.2.2.1 x.2.2.2.2.2.2
theorem A_Q {σ τ : xM} (h : Upd PcQ σ τ) : Upd PcA σ τ := h.mono (fun a k hq => by
  unfold PcA at hq
  rw [Bool.or_eq_false_iff] at hq
  exact hq.1)
theorem PcA_no {a k : Nat} (h : PcA a k = false) : a < 26 ∨ 101 < a := by
  unfold PcA at h
  rw [Bool.or_eq_false_iff] at h
  have h3 := h.2
  by_cases e : 26 ≤ a ∧ a ≤ 101
  · rw [Nat.ble_eq.mpr e.1, Nat.ble_eq.mpr e.2] at h3
    cases h3
  · omega
theorem A_kp {σ τ : xM} (h : Upd Pkp σ τ) : Upd PcA σ τ := h.mono (fun a k hq => by
  have := PcA_no hq
  exact Pkp_no k (by omega) (by omega))
theorem A_st {σ τ : xM} {a : Nat} (ha : 26 ≤ a ∧ a + 2 ≤ 101) (h : Upd (Pst a) σ τ) : Upd PcA σ τ := h.mono (fun x k hq => by
  have := PcA_no hq
  exact Pst_no k ⟨by omega, by omega, by omega⟩)
theorem A_nt {σ τ : xM} {a : Nat} (ha : 26 ≤ a ∧ a + 2 ≤ 101) (h : Upd (Pnt a) σ τ) : Upd PcA σ τ := h.mono (fun x k hq => by
  have := PcA_no hq
  unfold Pnt
  rw [Pst_no k ⟨by omega, by omega, by omega⟩, beqF (show x ≠ 93 by omega)]
  rfl)
theorem A_w {σ τ : xM} (h : Upd PcA σ τ) {a k : Nat} {x : Int32} (ha : 26 ≤ a ∧ a ≤ 101) : Upd PcA σ (wI τ a k x) := h.wI (by
  unfold PcA
  rw [Nat.ble_eq.mpr ha.1, Nat.ble_eq.mpr ha.2]
  simp)
/-- the past is left where its cells are -/
theorem cP_upd {P : Nat → Nat → Bool} {σ τ : xM} {n na : Nat} {ps : Nat → Sta} (hu : Upd P σ τ) (h : ∀ a k, (a = 32 ∨ 35 ≤ a ∧ a < 83) → P a k = false) (hP : cP σ n ps na) : cP τ n ps na := by
  obtain ⟨p1, p2, nx, p3, p4, p5⟩ := hP
  refine ⟨p1, (hu.2.1 32 0 (h _ _ (Or.inl rfl))).trans p2, nx, p3, (hu.2.1 32 2 (h _ _ (Or.inl rfl))).trans p4, fun i hi => ?_⟩
  have h5 := p5 i hi
  have hm : (nx + 15 - i) % 16 < 16 := Nat.mod_lt _ (by decide)
  generalize (nx + 15 - i) % 16 = m at h5 hm
  exact cS_upd hu (fun k => h _ _ (Or.inr ⟨by omega, by omega⟩)) (fun k => h _ _ (Or.inr ⟨by omega, by omega⟩)) (fun k => h _ _ (Or.inr ⟨by omega, by omega⟩)) h5
theorem cI_upd {P : Nat → Nat → Bool} {σ τ : xM} {n ni : Nat} {im : Nat → Sta} (hu : Upd P σ τ) (h : ∀ a k, (a = 32 ∨ 83 ≤ a ∧ a < 92) → P a k = false) (hI : cI σ n im ni) : cI τ n im ni := by
  obtain ⟨p1, p2, p3⟩ := hI
  refine ⟨p1, (hu.2.1 32 1 (h _ _ (Or.inl rfl))).trans p2, fun i hi => ?_⟩
  exact cS_upd hu (fun k => h _ _ (Or.inr ⟨by omega, by omega⟩)) (fun k => h _ _ (Or.inr ⟨by omega, by omega⟩)) (fun k => h _ _ (Or.inr ⟨by omega, by omega⟩)) (p3 i hi)
theorem PcQ_past {a : Nat} (k : Nat) (h : a = 32 ∨ 35 ≤ a ∧ a < 92) : PcQ a k = false := by
  unfold PcQ
  rw [anyF (fun b hb => ?_), beqF (show a ≠ 0 by omega)]
  · rfl
  · simp at hb
    omega
section CLASS
variable {σ : xM} {C : Cty} {s : Sta} {ps im : Nat → Sta} {na ni : Nat}
theorem cP_Q {τ : xM} (hu : Upd PcQ σ τ) (h : cP σ (pe C) ps na) : cP τ (pe C) ps na := cP_upd hu (fun a k h => PcQ_past k (by omega)) h
theorem cI_Q {τ : xM} (hu : Upd PcQ σ τ) (h : cI σ (pe C) im ni) : cI τ (pe C) im ni := cI_upd hu (fun a k h => PcQ_past k (by omega)) h
/-- nothing but what a call that asks may write -/
theorem cA_Q {o : Option (Int32 × xM)} {x : Int32 × Int32} (h : QC σ C s) (hP : cP σ (pe C) ps na) (hI : cI σ (pe C) im ni) (hq : cQ σ o x) : cA σ C o (x.1, x.2, s, ps, na, im, ni) := by
  obtain ⟨τ, t1, t2, t3⟩ := hq
  exact ⟨τ, t1, A_Q t2, t3, (QC_upd t2 h).2.2.1, cP_Q t2 hP, cI_Q t2 hI⟩
def askT (C : Cty) (s : Sta) (p q : Int32) : Int32 := if two (pe C) p q then (if tb (lv s) (pN p) && tb (lv s) (pN q) then (if alw C (pN p) (pN q) then (if hr s < 999 then 0 else 3) else 6) else 5) else 1
theorem f123N (h : QC σ C s) (p q : Int32) : f123 0 p q σ = some (askT C s p q, σ) := by
  obtain ⟨hS, hp, hc, hk, hC⟩ := id h
  unfold f123 f123_33 f123_68 askT
  simp only [acC hS, Option.bind_some, f117_eq hS hk.1 hp, bo_0]
  cases e : two (pe C) p q
  · simp
  · obtain ⟨i, j, hi, hj, rfl, rfl, hij⟩ := two_of hk.1 e
    have h6 := hk.1
    have hi6 : i < 6 := by omega
    have hj6 : j < 6 := by omega
    obtain ⟨hC, hO, -⟩ := hC (by omega)
    have b1 := hk.2.2.2.2.1
    rw [if_neg (by simp), if_pos rfl, pN_nI hi6, pN_nI hj6]
    simp only [f48_26 hS hc hk hi6, f48_26 hS hc hk hj6, Option.bind_some, bo_0, acC hS, f4_eq hS hC hO hi hj, hc.2.2.2.2.1, show (999 : Int32) = nI 999 from rfl, nI_ltI (show hr s < 2 ^ 31 by omega) (show 999 < 2 ^ 31 by omega)]
    cases e1 : tb (lv s) i
    · simp
    · cases e2 : tb (lv s) j
      · simp
      · cases e3 : alw C i j
        · simp
        · by_cases e4 : hr s < 999 <;> simp [e4]
def aAsk (C : Cty) (s : Sta) (ps : Nat → Sta) (na : Nat) (im : Nat → Sta) (ni : Nat) (p q : Int32) : Act := if askT C s p q = 0 then (nI (gvn s (gv C) (pN q)), 0, giv s (gv C) (pN p) (pN q), consS s ps, min (na + 1) 16, im, ni) else (-1, askT C s p q, s, ps, na, im, ni)
theorem askT_0 (hk : Ok (pe C) s) {p q : Int32} (h : askT C s p q = 0) : ∃ i j, i < pe C ∧ j < pe C ∧ p = nI i ∧ q = nI j ∧ i ≠ j ∧ tb (lv s) i = true ∧ tb (lv s) j = true ∧ alw C i j = true ∧ hr s < 999 := by
  unfold askT at h
  cases e : two (pe C) p q
  · rw [e, if_neg (by simp)] at h
    exact absurd h (by decide)
  · obtain ⟨i, j, hi, hj, rfl, rfl, hij⟩ := two_of hk.1 e
    have h6 := hk.1
    rw [e, if_pos rfl, pN_nI (show i < 6 by omega), pN_nI (show j < 6 by omega)] at h
    cases e1 : tb (lv s) i
    · rw [e1] at h
      exact absurd h (by simp)
    · cases e2 : tb (lv s) j
      · rw [e1, e2] at h
        exact absurd h (by simp)
      · cases e3 : alw C i j
        · rw [e1, e2, e3] at h
          exact absurd h (by simp)
        · by_cases e4 : hr s < 999
          · exact ⟨i, j, hi, hj, rfl, rfl, hij, e1, e2, e3, e4⟩
          · rw [e1, e2, e3, if_neg e4] at h
            exact absurd h (by simp)
theorem c104 (h : QC σ C s) (hP : cP σ (pe C) ps na) (hI : cI σ (pe C) im ni) (p q : Int32) : cA σ C (f104 0 p q σ) (aAsk C s ps na im ni p q) := by
  obtain ⟨hS, hp, hc, hk, hC⟩ := id h
  unfold f104 aAsk
  simp only [acC hS, Option.bind_some, f123N h, f114_eq hS, bo_ref]
  by_cases e : askT C s p q = 0
  · obtain ⟨i, j, hi, hj, rfl, rfl, hij, l1, l2, -, -⟩ := askT_0 hk e
    have h6 := hk.1
    obtain ⟨hC, hO, -⟩ := hC (by omega)
    have hg : gv C ≤ 9 := hO.2.2.2.2.2.2.2.2.2.2.1
    have hQ1 := QC_w h 0
    obtain ⟨hS1, -, hc1, -⟩ := id hQ1
    have u1 : Upd PcQ σ (wI σ 0 8 0) := Upd.refl.wI rfl
    obtain ⟨τ, t1, t2, t3, t4⟩ := f18N hS1 h6 hc1 (cP_Q u1 hP) (cI_Q u1 hI)
    have hS2 := t2.sh hS1
    have hc2 : cS τ 26 (pe C) s := cS_upd t2 (fun k => Pkp_no k (by omega) (by omega)) (fun k => Pkp_no k (by omega) (by omega)) (fun k => Pkp_no k (by omega) (by omega)) hc1
    have hgv : mI τ 15 1 = nI (gv C) := (t2.2.1 15 1 rfl).trans ((u1.2.1 15 1 rfl).trans hC.1.2.1)
    obtain ⟨υ, v1, v2, v3⟩ := f49N (a := 26) hS2 (by decide) hc2 hk hi hj hij hg
    rw [if_pos e, if_pos e, e, pN_nI (show i < 6 by omega), pN_nI (show j < 6 by omega)]
    simp only [acC hS1, acW hS1, Option.bind_some, t1, acC hS2, hgv, v1]
    refine ⟨υ, rfl, (A_Q u1).trans ((A_kp t2).trans (A_st ⟨by omega, by omega⟩ v2)), ?_, v3, cP_upd v2 (fun a k h => Pst_no k ⟨by omega, by omega, by omega⟩) t3, cI_upd v2 (fun a k h => Pst_no k ⟨by omega, by omega, by omega⟩) t4⟩
    rw [v2.2.1 0 8 rfl, t2.2.1 0 8 rfl, mI_w, if_pos ⟨rfl, rfl⟩]
  · rw [if_neg e, if_neg e]
    exact cA_Q (x := (-1, askT C s p q)) h hP hI cQ_w
def aDie (n : Nat) (s : Sta) (ps : Nat → Sta) (na : Nat) (im : Nat → Sta) (ni : Nat) (p : Int32) : Act := if lvOr n s p = 0 then (ob (hN s (pN p)), 0, lea s (2 ^ pN p), consS s ps, min (na + 1) 16, im, ni) else (-1, lvOr n s p, s, ps, na, im, ni)
theorem sub_pow {p l : Nat} (h : tb l p = true) : sub (2 ^ p) l := fun i hi => by
  rw [tb_pow, decide_eq_true_eq] at hi
  rw [hi]
  exact h
theorem c105 (h : QC σ C s) (hP : cP σ (pe C) ps na) (hI : cI σ (pe C) im ni) (p : Int32) : cA σ C (f105 0 p σ) (aDie (pe C) s ps na im ni p) := by
  obtain ⟨hS, hp, hc, hk, hC⟩ := id h
  unfold f105 aDie
  simp only [acC hS, Option.bind_some, f119_eq hS hp hc hk, f114_eq hS, bo_ref]
  by_cases e : lvOr (pe C) s p = 0
  · obtain ⟨j, hj, rfl, hl⟩ := lvOr_0 hk e
    have h6 := hk.1
    have hj6 : j < 6 := by omega
    have hQ1 := QC_w h 0
    obtain ⟨hS1, -, hc1, -⟩ := id hQ1
    have u1 : Upd PcQ σ (wI σ 0 8 0) := Upd.refl.wI rfl
    obtain ⟨τ, t1, t2, t3, t4⟩ := f18N hS1 h6 hc1 (cP_Q u1 hP) (cI_Q u1 hI)
    have hS2 := t2.sh hS1
    have hc2 : cS τ 26 (pe C) s := cS_upd t2 (fun k => Pkp_no k (by omega) (by omega)) (fun k => Pkp_no k (by omega) (by omega)) (fun k => Pkp_no k (by omega) (by omega)) hc1
    have hS3 := wl_sh (s := s) hS2
    have uw : Upd PcQ τ (wl τ s) := wl_upd Upd.refl (fun _ => rfl)
    obtain ⟨υ, v1, v2, v3⟩ := f51N (a := 26) (D := 2 ^ j) hS3 (by decide) (by decide) (wl_cH τ s) (wl_cS (Or.inl rfl) hc2) hk (pow64 hj6) (sub_pow hl)
    rw [if_pos e, if_pos e, e, pN_nI hj6]
    simp only [acC hS1, acW hS1, Option.bind_some, t1, acC hS2, f129N hS2 hc2 hk, acC hS3, hj6, wl_cH τ s j hj6, shlN j hj6, v1]
    refine ⟨υ, rfl, (A_Q u1).trans ((A_kp t2).trans ((A_Q uw).trans (A_st ⟨by omega, by omega⟩ v2))), ?_, v3, cP_upd v2 (fun a k h => Pst_no k ⟨by omega, by omega, by omega⟩) (cP_Q uw t3), cI_upd v2 (fun a k h => Pst_no k ⟨by omega, by omega, by omega⟩) (cI_Q uw t4)⟩
    rw [v2.2.1 0 8 rfl, (wl_upd (P := P93) (s := s) (Upd.refl (σ := τ)) (fun _ => rfl)).2.1 0 8 rfl, t2.2.1 0 8 rfl, mI_w, if_pos ⟨rfl, rfl⟩]
  · rw [if_neg e, if_neg e]
    exact cA_Q (x := (-1, lvOr (pe C) s p)) h hP hI cQ_w
def nup (s : Sta) : Sta := (hs s, rg s, lv s, ct s, hr s, ng s + 1, sd s)
theorem nup_ok {n : Nat} {s : Sta} (hk : Ok n s) (h : ng s + 1 ≤ 999) : Ok n (nup s) := by
  obtain ⟨a1, a2, a3, a4, a5, a6, a7, a8, a9⟩ := hk
  exact ⟨a1, a2, a3, a4, a5, a6, h, a8, a9⟩
theorem cS_nup {a n : Nat} (hc : cS σ a n s) : cS (wI σ a 2 (nI (ng s + 1))) a n (nup s) := by
  obtain ⟨c1, c2, c3, c4, c5, c6, c7⟩ := hc
  refine ⟨fun p hp => ?_, fun p hp q hq => ?_, ?_, ?_, ?_, ?_, ?_⟩
  · rw [mI_w, if_neg (by omega)]; exact c1 p hp
  · rw [mI_w, if_neg (by omega)]; exact c2 p hp q hq
  · rw [mI_w, if_neg (by omega)]; exact c3
  · rw [mI_w, if_neg (by omega)]; exact c4
  · rw [mI_w, if_neg (by omega)]; exact c5
  · rw [mI_w, if_pos ⟨rfl, rfl⟩]; rfl
  · rw [mI_w, if_neg (by omega)]; exact c7
def nigT (n : Nat) (s : Sta) : Int32 := if 0 < n then (if ng s < 999 then 0 else 3) else 1
def aNgt (C : Cty) (s : Sta) (ps : Nat → Sta) (na : Nat) (im : Nat → Sta) (ni : Nat) : Act := if nigT (pe C) s = 0 then (nI (ngD C (nup s)), 0, ngt C (nup s), consS s ps, min (na + 1) 16, im, ni) else (-1, nigT (pe C) s, s, ps, na, im, ni)
theorem nigT_0 {n : Nat} (h : nigT n s = 0) : 0 < n ∧ ng s < 999 := by
  unfold nigT at h
  split at h
  · split at h
    · exact ⟨by assumption, by assumption⟩
    · exact absurd h (by decide)
  · exact absurd h (by decide)
theorem c106 (h : QC σ C s) (hP : cP σ (pe C) ps na) (hI : cI σ (pe C) im ni) : cA σ C (f106 0 σ) (aNgt C s ps na im ni) := by
  obtain ⟨hS, hp, hc, hk, hC⟩ := id h
  have b7 := hk.2.2.2.2.2.2.1
  have e0 : f106 0 σ = f106_30 0 (nigT (pe C) s) 0 σ := by
    unfold f106 nigT
    simp only [acC hS, Option.bind_some, f115_eq hS hk.1 hp, bo_0, hc.2.2.2.2.2.1, show (999 : Int32) = nI 999 from rfl, nI_ltI (show ng s < 2 ^ 31 by omega) (show 999 < 2 ^ 31 by omega)]
    by_cases e : 0 < pe C <;> by_cases e2 : ng s < 999 <;> simp [e, e2]
  rw [e0]
  unfold f106_30 aNgt
  simp only [acC hS, Option.bind_some, f114_eq hS, bo_ref]
  by_cases e : nigT (pe C) s = 0
  · obtain ⟨hn, hng⟩ := nigT_0 e
    have h6 := hk.1
    obtain ⟨hC, hO, -⟩ := hC hn
    have hQ1 := QC_w h 0
    obtain ⟨hS1, -, hc1, -⟩ := id hQ1
    have u1 : Upd PcQ σ (wI σ 0 8 0) := Upd.refl.wI rfl
    obtain ⟨τ, t1, t2, t3, t4⟩ := f18N hS1 h6 hc1 (cP_Q u1 hP) (cI_Q u1 hI)
    have hS2 := t2.sh hS1
    have hc2 : cS τ 26 (pe C) s := cS_upd t2 (fun k => Pkp_no k (by omega) (by omega)) (fun k => Pkp_no k (by omega) (by omega)) (fun k => Pkp_no k (by omega) (by omega)) hc1
    have uT : Upd PcA σ (wI τ 26 2 (nI (ng s + 1))) := A_w ((A_Q u1).trans (A_kp t2)) ⟨by omega, by omega⟩
    have hS3 : Sh (wI τ 26 2 (nI (ng s + 1))) := hS2
    have hC3 : cC (wI τ 26 2 (nI (ng s + 1))) 15 C := cC_upd uT (fun i k hi => by
      unfold PcA PcQ
      rw [anyF (fun b hb => by simp at hb; omega), beqF (show 15 + i ≠ 0 by omega)]
      rw [show Nat.ble 26 (15 + i) = false by
        rw [Bool.eq_false_iff]
        intro h
        rw [Nat.ble_eq] at h
        omega]
      rfl) hC
    obtain ⟨υ, v1, v2, v3⟩ := f145N (Or.inl rfl) hS3 hC3 hO (cS_nup hc2) (nup_ok hk (by omega))
    have uq : Upd (Pst 26) τ (wI τ 26 2 (nI (ng s + 1))) := Upd.refl.wI rfl
    have hnt : ∀ a k, (a = 32 ∨ 35 ≤ a ∧ a < 92) → Pnt 26 a k = false := fun a k h => by
      unfold Pnt
      rw [Pst_no k ⟨by omega, by omega, by omega⟩, beqF (show a ≠ 93 by omega)]
      rfl
    rw [if_pos e, if_pos e, e]
    simp only [acC hS1, acW hS1, Option.bind_some, t1, acC hS2, hc2.2.2.2.2.2.1, nI_1, acC hS3, v1]
    refine ⟨υ, rfl, uT.trans (A_nt ⟨by omega, by omega⟩ v2), ?_, v3, cP_upd v2 (fun a k h => hnt a k (by omega)) (cP_upd uq (fun a k h => Pst_no k ⟨by omega, by omega, by omega⟩) t3), cI_upd v2 (fun a k h => hnt a k (by omega)) (cI_upd uq (fun a k h => Pst_no k ⟨by omega, by omega, by omega⟩) t4)⟩
    rw [v2.2.1 0 8 rfl, mI_w, if_neg (by omega), t2.2.1 0 8 rfl, mI_w, if_pos ⟨rfl, rfl⟩]
  · rw [if_neg e, if_neg e]
    exact cA_Q (x := (-1, nigT (pe C) s)) h hP hI cQ_w
def sedT (n : Nat) (x : Int32) : Int32 := if 0 < n then (if x < 0 ∨ 65536 < x then 2 else 0) else 1
def aSed (n : Nat) (s : Sta) (ps : Nat → Sta) (na : Nat) (im : Nat → Sta) (ni : Nat) (x : Int32) : Act := if sedT n x = 0 then (1, 0, ssd s (pN x), ps, na, im, ni) else (0, sedT n x, s, ps, na, im, ni)
theorem sedT_0 {n : Nat} {x : Int32} (h : sedT n x = 0) : 0 < n ∧ ∃ a, a ≤ 65536 ∧ x = nI a := by
  unfold sedT at h
  split at h
  · rename_i hn
    split at h
    · exact absurd h (by decide)
    · rename_i hx
      obtain ⟨a, ha, rfl⟩ := nI_of2 (M := 65536) (n := 65536) (x := x) rfl (fun h => hx (Or.inl h)) (Int32.not_lt.mp (fun h => hx (Or.inr h)))
      exact ⟨hn, a, ha, rfl⟩
  · exact absurd h (by decide)
theorem c107 (h : QC σ C s) (hP : cP σ (pe C) ps na) (hI : cI σ (pe C) im ni) (x : Int32) : cA σ C (f107 0 x σ) (aSed (pe C) s ps na im ni x) := by
  obtain ⟨hS, hp, hc, hk, hC⟩ := id h
  have e0 : f107 0 x σ = f107_28 0 x (sedT (pe C) x) 0 σ := by
    unfold f107 f107_27 sedT
    simp only [acC hS, Option.bind_some, f115_eq hS hk.1 hp, bo_0]
    by_cases e : 0 < pe C <;> by_cases e1 : x < 0 <;> by_cases e2 : 65536 < x <;> simp [e, e1, e2]
  rw [e0]
  unfold f107_28 aSed
  simp only [acC hS, Option.bind_some, f114_eq hS, bo_ref]
  by_cases e : sedT (pe C) x = 0
  · obtain ⟨hn, a, ha, rfl⟩ := sedT_0 e
    obtain ⟨hS1, -, hc1, -⟩ := QC_w h 0
    have u1 : Upd PcQ σ (wI σ 0 8 0) := Upd.refl.wI rfl
    have uq : Upd (Pst 26) (wI σ 0 8 0) (wI (wI σ 0 8 0) 26 1 (nI a)) := Upd.refl.wI rfl
    rw [if_pos e, if_pos e, e, pN_any ha]
    simp only [acC hS1, Option.bind_some, rZ_1]
    refine ⟨_, rfl, A_w (A_Q u1) ⟨by omega, by omega⟩, ?_, cS_ssd hc1, cP_upd uq (fun a k h => Pst_no k ⟨by omega, by omega, by omega⟩) (cP_Q u1 hP), cI_upd uq (fun a k h => Pst_no k ⟨by omega, by omega, by omega⟩) (cI_Q u1 hI)⟩
    rw [mI_w, if_neg (by omega), mI_w, if_pos ⟨rfl, rfl⟩]
  · rw [if_neg e, if_neg e, rZ_0]
    exact cA_Q (x := (0, sedT (pe C) x)) h hP hI cQ_w
end CLASS
