/-! ACTS: undo, image, back in the class -/
section CLASS
variable {σ : xM} {C : Cty} {s : Sta} {ps im : Nat → Sta} {na ni : Nat}
def tailS (ps : Nat → Sta) : Nat → Sta := fun i => ps (i + 1)
def aUnd (s : Sta) (ps : Nat → Sta) (na : Nat) (im : Nat → Sta) (ni : Nat) : Act := if na = 0 then (0, 6, s, ps, na, im, ni) else (1, 0, ps 0, tailS ps, na - 1, im, ni)
theorem f108_21N (hS : Sh σ) (r : Int32) : f108_21 r 0 σ = some (bo (decide (r = 0)), wI σ 0 8 r) := by
  unfold f108_21 f108_32
  simp only [acC hS, Option.bind_some, f114_eq hS, bo_ref, rZ0, rZ1]
  by_cases e : r = 0 <;> simp [e]
theorem f110_21N (hS : Sh σ) (r : Int32) : f110_21 r 0 σ = some (bo (decide (r = 0)), wI σ 0 8 r) := by
  unfold f110_21 f110_32
  simp only [acC hS, Option.bind_some, f114_eq hS, bo_ref, rZ0, rZ1]
  by_cases e : r = 0 <;> simp [e]
theorem c108 (h : QC σ C s) (hP : cP σ (pe C) ps na) (hI : cI σ (pe C) im ni) : cA σ C (f108 0 σ) (aUnd s ps na im ni) := by
  obtain ⟨hS, hp, hc, hk, hC⟩ := id h
  obtain ⟨p1, p2, nx, p3, p4, p5⟩ := id hP
  unfold f108 aUnd
  simp only [acC hS, acW hS, Option.bind_some]
  by_cases e : na = 0
  · have q : f19 32 26 σ = some (0, σ) := by
      unfold f19
      simp only [acW hS, Option.bind_some, p2, e]
      rfl
    rw [q, Option.bind_some, if_pos e, if_pos (show ((0 : Int32), σ).1 = 0 from rfl), f108_21N hS]
    exact cA_Q (x := (0, 6)) h hP hI cQ_w
  · obtain ⟨na, rfl⟩ : ∃ k, na = k + 1 := ⟨na - 1, by omega⟩
    have hc0 := p5 0 (by omega)
    have hm : (nx + 15) % 16 < 16 := Nat.mod_lt _ (by decide)
    obtain ⟨r1, r2⟩ := rf33 _ hm
    let τ1 := wI σ 32 0 (nI na)
    let τ2 := wI τ1 32 2 (nI ((nx + 15) % 16))
    have S1 : Sh τ1 := hS
    have S2 : Sh τ2 := hS
    have u2 : Upd (fun a _ => Nat.beq a 32) σ τ2 := (Upd.refl.wI rfl).wI rfl
    have uA : Upd PcA σ τ2 := A_w (A_w Upd.refl ⟨by omega, by omega⟩) ⟨by omega, by omega⟩
    have hst : ∀ m st, cS σ (35 + 3 * m) (pe C) st → cS τ2 (35 + 3 * m) (pe C) st := fun m st hs' => cS_upd u2 (fun k => beqF (by omega)) (fun k => beqF (by omega)) (fun k => beqF (by omega)) hs'
    rw [show nx + 15 - 0 = nx + 15 by omega] at hc0
    obtain ⟨υ, v1, v2, v3⟩ := f47N (a := 26) (b := 35 + 3 * ((nx + 15) % 16)) S2 (by decide) r2 (by omega) (by omega) (by omega) (by omega) (by omega) hk.1 (hst _ _ hc0)
    have hSυ := v2.sh S2
    have g1 : gI σ 32 2 0 = some (nI (na + 1)) := by simp only [acW hS, p2]
    have g2 : pI σ 32 2 0 (nI na) = some τ1 := by simp only [acW hS]; rfl
    have g3 : gI τ1 32 2 2 = some (nI nx) := by
      simp only [acW S1]
      show some (mI (wI σ 32 0 _) 32 2) = _
      rw [mI_w, if_neg (by omega), p4]
    have g4 : rI (nI nx + 16 - 1) 16 = some (nI ((nx + 15) % 16)) := by
      rw [show (16 : Int32) = nI 16 from rfl, nI_add, show nI (nx + 16) - 1 = nI (nx + 15) from nI_pred (nx + 15)]
      exact rIN (x := nx + 15) (y := 16) (by omega) (by omega) (by omega)
    have g5 : pI τ1 32 2 2 (nI ((nx + 15) % 16)) = some τ2 := by simp only [acW S1]; rfl
    have g6 : gR τ2 32 2 3 = some 33 := by simp only [acW S2]
    have g7 : gI τ2 32 2 2 = some (nI ((nx + 15) % 16)) := by
      simp only [acW S2]
      show some (mI (wI τ1 32 2 _) 32 2) = _
      rw [mI_w, if_pos ⟨rfl, rfl⟩]
    have g8 : cO τ2 26 4 = some () := by simp only [acC S2]
    have q : f19 32 26 σ = some (1, υ) := by
      unfold f19
      rw [g1, Option.bind_some, if_neg (nI_ne0 (by omega) (by omega)), Option.bind_some, nI_pred, g2, Option.bind_some, g3, Option.bind_some, g4, Option.bind_some, g5, Option.bind_some, g6, Option.bind_some, g7, Option.bind_some, aR33 S2 hm, Option.bind_some, g8, Option.bind_some, v1, Option.bind_some]
      rfl
    have hpast : cP υ (pe C) (tailS ps) na := by
      refine ⟨by omega, ?_, (nx + 15) % 16, hm, ?_, fun i hi => ?_⟩
      · rw [v2.2.1 32 0 rfl]
        show mI (wI (wI σ 32 0 _) 32 2 _) 32 0 = _
        rw [mI_w, if_neg (by omega), mI_w, if_pos ⟨rfl, rfl⟩]
      · rw [v2.2.1 32 2 rfl]
        show mI (wI (wI σ 32 0 _) 32 2 _) 32 2 = _
        rw [mI_w, if_pos ⟨rfl, rfl⟩]
      · have e3 : ((nx + 15) % 16 + 15 - i) % 16 = (nx + 15 - (i + 1)) % 16 := by omega
        rw [e3]
        have h5 := p5 (i + 1) (by omega)
        have hm2 : (nx + 15 - (i + 1)) % 16 < 16 := Nat.mod_lt _ (by decide)
        generalize (nx + 15 - (i + 1)) % 16 = m at h5 hm2
        exact cS_upd v2 (fun k => Pst_no k ⟨by omega, by omega, by omega⟩) (fun k => Pst_no k ⟨by omega, by omega, by omega⟩) (fun k => Pst_no k ⟨by omega, by omega, by omega⟩) (hst m _ h5)
    have himg : cI υ (pe C) im ni := by
      refine cI_upd v2 (fun a k h => Pst_no k ⟨by omega, by omega, by omega⟩) ?_
      obtain ⟨i1, i2, i3⟩ := hI
      refine ⟨i1, ?_, fun i hi => cS_upd u2 (fun k => beqF (by omega)) (fun k => beqF (by omega)) (fun k => beqF (by omega)) (i3 i hi)⟩
      show mI (wI (wI σ 32 0 _) 32 2 _) 32 1 = _
      rw [mI_w, if_neg (by omega), mI_w, if_neg (by omega)]
      exact i2
    have u8 : Upd PcQ υ (wI υ 0 8 0) := Upd.refl.wI rfl
    rw [q, Option.bind_some, if_neg (show ¬ na + 1 = 0 by omega), if_neg (show ¬ ((1 : Int32), υ).1 = 0 from show ¬ (1 : Int32) = 0 by decide), f108_21N hSυ, show na + 1 - 1 = na by omega]
    exact ⟨_, rfl, uA.trans ((A_st ⟨by omega, by omega⟩ v2).trans (A_Q u8)), by rw [mI_w, if_pos ⟨rfl, rfl⟩], cS_upd (P := fun a _ => Nat.beq a 0) (Upd.refl.wI rfl) (fun k => rfl) (fun k => rfl) (fun k => rfl) v3, cP_Q u8 hpast, cI_Q u8 himg⟩
def imgT (n ni : Nat) : Int32 := if 0 < n then (if ni < 3 then 0 else 3) else 1
def snocS (im : Nat → Sta) (ni : Nat) (s : Sta) : Nat → Sta := fun i => if i = ni then s else im i
def aImg (n : Nat) (s : Sta) (ps : Nat → Sta) (na : Nat) (im : Nat → Sta) (ni : Nat) : Act := if imgT n ni = 0 then (nI ni, 0, s, ps, na, snocS im ni s, ni + 1) else (-1, imgT n ni, s, ps, na, im, ni)
theorem imgT_0 {n ni : Nat} (h : imgT n ni = 0) : 0 < n ∧ ni < 3 := by
  unfold imgT at h
  split at h
  · split at h
    · exact ⟨by assumption, by assumption⟩
    · exact absurd h (by decide)
  · exact absurd h (by decide)
theorem c109 (h : QC σ C s) (hP : cP σ (pe C) ps na) (hI : cI σ (pe C) im ni) : cA σ C (f109 0 σ) (aImg (pe C) s ps na im ni) := by
  obtain ⟨hS, hp, hc, hk, hC⟩ := id h
  obtain ⟨i1, i2, i3⟩ := id hI
  have e0 : f109 0 σ = f109_28 0 (imgT (pe C) ni) 0 σ := by
    unfold f109 imgT
    simp only [acC hS, acW hS, Option.bind_some, f115_eq hS hk.1 hp, bo_0, i2, show (3 : Int32) = nI 3 from rfl, nI_ltI (show ni < 2 ^ 31 by omega) (show 3 < 2 ^ 31 by omega)]
    by_cases e : 0 < pe C <;> by_cases e2 : ni < 3 <;> simp [e, e2]
  rw [e0]
  unfold f109_28 aImg
  simp only [acC hS, Option.bind_some, f114_eq hS, bo_ref]
  by_cases e : imgT (pe C) ni = 0
  · obtain ⟨hn, hni⟩ := imgT_0 e
    have hQ1 := QC_w h 0
    obtain ⟨hS1, -, hc1, -⟩ := id hQ1
    have u1 : Upd PcQ σ (wI σ 0 8 0) := Upd.refl.wI rfl
    have hP1 := cP_Q u1 hP
    obtain ⟨-, j2, j3⟩ := cI_Q u1 hI
    obtain ⟨r1, r2⟩ := rf34 ni hni
    obtain ⟨υ, v1, v2, v3⟩ := f47N (a := 83 + 3 * ni) (b := 26) hS1 r2 (by decide) (by omega) (by omega) (by omega) (by omega) (by omega) hk.1 hc1
    have hSυ := v2.sh hS1
    have e1 : mI υ 32 1 = nI ni := (v2.2.1 32 1 (Pst_no 1 ⟨by omega, by omega, by omega⟩)).trans j2
    have g1 : gI (wI σ 0 8 0) 32 2 1 = some (nI ni) := by simp only [acW hS1, j2]
    have g2 : gR (wI σ 0 8 0) 32 2 4 = some 34 := by simp only [acW hS1]
    have g3 : cO (wI σ 0 8 0) (83 + 3 * ni) 4 = some () := by simp only [stA hS1 r2]
    have g4 : gI υ 32 2 1 = some (nI ni) := by simp only [acW hSυ, e1]
    have g5 : pI υ 32 2 1 (nI (ni + 1)) = some (wI υ 32 1 (nI (ni + 1))) := by simp only [acW hSυ]
    have g6 : gI (wI υ 32 1 (nI (ni + 1))) 32 2 1 = some (nI (ni + 1)) := by
      simp only [acW (show Sh (wI υ 32 1 (nI (ni + 1))) from hSυ)]
      rw [mI_w, if_pos ⟨rfl, rfl⟩]
    have q : f20 32 26 (wI σ 0 8 0) = some (nI ni, wI υ 32 1 (nI (ni + 1))) := by
      unfold f20
      rw [g1, Option.bind_some, if_pos (show nI ni < 3 from nI_lt (b := 3) hni (by omega)), g2, Option.bind_some, Option.bind_some, aR34 hS1 hni, Option.bind_some, g3, Option.bind_some, v1, Option.bind_some, g4, Option.bind_some, nI_1, g5, Option.bind_some, g6, Option.bind_some, nI_pred]
    have u3 : Upd (fun a _ => Nat.beq a 32) υ (wI υ 32 1 (nI (ni + 1))) := Upd.refl.wI rfl
    have hp3 : cP (wI υ 32 1 (nI (ni + 1))) (pe C) ps na := by
      obtain ⟨k1, k2, nx, k3, k4, k5⟩ := cP_upd v2 (fun a k h => Pst_no k ⟨by omega, by omega, by omega⟩) hP1
      refine ⟨k1, by rw [mI_w, if_neg (by omega)]; exact k2, nx, k3, by rw [mI_w, if_neg (by omega)]; exact k4, fun i hi => ?_⟩
      exact cS_upd u3 (fun k => beqF (by omega)) (fun k => beqF (by omega)) (fun k => beqF (by omega)) (k5 i hi)
    rw [if_pos e, if_pos e, e]
    simp only [acC hS1, acW hS1, Option.bind_some, q]
    refine ⟨_, rfl, A_w ((A_Q u1).trans (A_st ⟨by omega, by omega⟩ v2)) ⟨by omega, by omega⟩, ?_, ?_, hp3, ⟨show ni + 1 ≤ 3 by omega, by rw [mI_w, if_pos ⟨rfl, rfl⟩], fun i hi => ?_⟩⟩
    · rw [mI_w, if_neg (by omega), v2.2.1 0 8 (Pst_no 8 ⟨by omega, by omega, by omega⟩), mI_w, if_pos ⟨rfl, rfl⟩]
    · exact cS_upd u3 (fun k => beqF (by omega)) (fun k => beqF (by omega)) (fun k => beqF (by omega)) (cS_upd v2 (fun k => Pst_no k ⟨by omega, by omega, by omega⟩) (fun k => Pst_no k ⟨by omega, by omega, by omega⟩) (fun k => Pst_no k ⟨by omega, by omega, by omega⟩) hc1)
    · refine cS_upd u3 (fun k => beqF (by omega)) (fun k => beqF (by omega)) (fun k => beqF (by omega)) ?_
      have hi : i < ni + 1 := hi
      show cS υ (83 + 3 * i) (pe C) (if i = ni then s else im i)
      by_cases ei : i = ni
      · rw [if_pos ei, ei]
        exact v3
      · rw [if_neg ei]
        exact cS_upd v2 (fun k => Pst_no k ⟨by omega, by omega, by omega⟩) (fun k => Pst_no k ⟨by omega, by omega, by omega⟩) (fun k => Pst_no k ⟨by omega, by omega, by omega⟩) (j3 i (by omega))
  · rw [if_neg e, if_neg e]
    exact cA_Q (x := (-1, imgT (pe C) ni)) h hP hI cQ_w
def aBac (s : Sta) (ps : Nat → Sta) (na : Nat) (im : Nat → Sta) (ni : Nat) (x : Int32) : Act := if isP ni x then (1, 0, im (pN x), ps, 0, im, ni) else (0, 1, s, ps, na, im, ni)
theorem c110 (h : QC σ C s) (hP : cP σ (pe C) ps na) (hI : cI σ (pe C) im ni) (x : Int32) : cA σ C (f110 0 x σ) (aBac s ps na im ni x) := by
  obtain ⟨hS, hp, hc, hk, hC⟩ := id h
  obtain ⟨i1, i2, i3⟩ := id hI
  unfold f110 aBac
  simp only [acC hS, acW hS, Option.bind_some]
  cases e : isP ni x
  · have q : f21 32 x 26 σ = some (0, σ) := by
      unfold isP at e
      unfold f21 f21_12
      simp only [acW hS, Option.bind_some, i2, rZ_0]
      rw [decide_eq_false_iff_not] at e
      by_cases e1 : x < 0
      · rw [if_pos e1]
      · rw [if_neg e1, if_neg (fun h => e ⟨e1, Int32.not_le.mpr h⟩)]
    rw [q, Option.bind_some, if_pos (show ((0 : Int32), σ).1 = 0 from rfl), f110_21N hS]
    exact cA_Q (x := (0, 1)) h hP hI cQ_w
  · obtain ⟨j, hj, rfl⟩ := isP_nI (by omega) e
    obtain ⟨r1, r2⟩ := rf34 j (by omega)
    obtain ⟨υ, v1, v2, v3⟩ := f47N (a := 26) (b := 83 + 3 * j) hS (by decide) r2 (by omega) (by omega) (by omega) (by omega) (by omega) hk.1 (i3 j hj)
    have hSυ := v2.sh hS
    have g1 : gI σ 32 2 1 = some (nI ni) := by simp only [acW hS, i2]
    have g2 : gR σ 32 2 4 = some 34 := by simp only [acW hS]
    have g3 : cO σ 26 4 = some () := by simp only [acC hS]
    have g4 : pI υ 32 2 0 0 = some (wI υ 32 0 0) := by simp only [acW hSυ]
    have q : f21 32 (nI j) 26 σ = some (1, wI υ 32 0 0) := by
      unfold f21
      rw [if_neg (nI_pos (by omega)), g1, Option.bind_some, if_pos (nI_lt hj (by omega)), g2, Option.bind_some, aR34 hS (by omega), Option.bind_some, g3, Option.bind_some, v1, Option.bind_some, g4, Option.bind_some]
      rfl
    have hS3 : Sh (wI υ 32 0 0) := hSυ
    have u3 : Upd (fun a _ => Nat.beq a 32) υ (wI υ 32 0 0) := Upd.refl.wI rfl
    have u8 : Upd PcQ (wI υ 32 0 0) (wI (wI υ 32 0 0) 0 8 0) := Upd.refl.wI rfl
    rw [q, Option.bind_some, if_neg (show ¬ ((1 : Int32), wI υ 32 0 0).1 = 0 from show ¬ (1 : Int32) = 0 by decide), f110_21N hS3, if_pos rfl, pN_nI (show j < 6 by omega)]
    obtain ⟨-, k2, nx, k3, k4, k5⟩ := cP_upd v2 (fun a k h => Pst_no k ⟨by omega, by omega, by omega⟩) hP
    obtain ⟨-, l2, l3⟩ := cI_upd v2 (fun a k h => Pst_no k ⟨by omega, by omega, by omega⟩) hI
    refine ⟨_, rfl, (A_w (A_st ⟨by omega, by omega⟩ v2) ⟨by omega, by omega⟩).trans (A_Q u8), by rw [mI_w, if_pos ⟨rfl, rfl⟩], ?_, cP_Q u8 ⟨show 0 ≤ 16 by omega, by rw [mI_w, if_pos ⟨rfl, rfl⟩]; rfl, nx, k3, by rw [mI_w, if_neg (by omega)]; exact k4, fun i hi => absurd (show i < 0 from hi) (by omega)⟩, cI_Q u8 ⟨i1, by rw [mI_w, if_neg (by omega)]; exact l2, fun i hi => cS_upd u3 (fun k => beqF (by omega)) (fun k => beqF (by omega)) (fun k => beqF (by omega)) (l3 i hi)⟩⟩
    exact cS_upd (P := fun a _ => Nat.beq a 0) (Upd.refl.wI rfl) (fun k => rfl) (fun k => rfl) (fun k => rfl) (cS_upd u3 (fun k => beqF (by omega)) (fun k => beqF (by omega)) (fun k => beqF (by omega)) v3)
end CLASS
