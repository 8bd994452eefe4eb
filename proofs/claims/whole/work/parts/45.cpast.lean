/-! WHAT WAS AND WHAT IS KEPT: the class's Past -/
def isR (σ : xM) (a n : Nat) : Prop := a < mN σ ∧ mK σ a = 13 ∧ mL σ a = n
theorem aR_nI {σ : xM} {a n j b : Nat} (h : isR σ a n) (hj : j < n) (hn : n < 2 ^ 31) (hb : mR σ a j = some b) : aR σ a (nI j) = some b := by
  unfold aR
  rw [okA h hj hn]
  simp only [cond_true, nI_clamp (show j < 2 ^ 31 by omega)]
  exact hb
theorem rf33 : ∀ i, i < 16 → (33, i, 35 + 3 * i) ∈ xRf ∧ 35 + 3 * i ∈ stL := by decide
theorem rf34 : ∀ i, i < 3 → (34, i, 83 + 3 * i) ∈ xRf ∧ 83 + 3 * i ∈ stL := by decide
theorem aR33 {σ : xM} (hS : Sh σ) {i : Nat} (hi : i < 16) : aR σ 33 (nI i) = some (35 + 3 * i) :=
  aR_nI (n := 16) ⟨sh_n hS (by decide), sh_k hS (by decide), (hS.2.1 33 (by decide)).2⟩ hi (by decide) (hS.2.2 _ (rf33 i hi).1)
theorem aR34 {σ : xM} (hS : Sh σ) {i : Nat} (hi : i < 3) : aR σ 34 (nI i) = some (83 + 3 * i) :=
  aR_nI (n := 3) ⟨sh_n hS (by decide), sh_k hS (by decide), (hS.2.1 34 (by decide)).2⟩ hi (by decide) (hS.2.2 _ (rf34 i hi).1)
/-- na acts can be undone: ps 0 is the latest -/
def cP (σ : xM) (n : Nat) (ps : Nat → Sta) (na : Nat) : Prop := na ≤ 16 ∧ mI σ 32 0 = nI na ∧ ∃ nx, nx < 16 ∧ mI σ 32 2 = nI nx ∧ ∀ i, i < na → cS σ (35 + 3 * ((nx + 15 - i) % 16)) n (ps i)
def cI (σ : xM) (n : Nat) (im : Nat → Sta) (ni : Nat) : Prop := ni ≤ 3 ∧ mI σ 32 1 = nI ni ∧ ∀ i, i < ni → cS σ (83 + 3 * i) n (im i)
def Pkp : Nat → Nat → Bool := fun a k => (Nat.beq a 32 && !Nat.beq k 1) || (Nat.ble 35 a && Nat.blt a 83)
theorem kp_st {σ τ : xM} {i : Nat} (hi : i < 16) (h : Upd (Pst (35 + 3 * i)) σ τ) : Upd Pkp σ τ := h.mono (fun a k hq => by
  unfold Pkp at hq
  rw [Bool.or_eq_false_iff] at hq
  have h2 : ¬ (35 ≤ a ∧ a < 83) := fun h => by
    have h3 := hq.2
    rw [Nat.ble_eq.mpr h.1, Nat.blt_eq.mpr h.2] at h3
    cases h3
  exact Pst_no k ⟨by omega, by omega, by omega⟩)
def consS (s : Sta) (ps : Nat → Sta) : Nat → Sta := fun i => if i = 0 then s else ps (i - 1)
theorem Pkp_no {a : Nat} (k : Nat) (h1 : a ≠ 32) (h2 : a < 35 ∨ 83 ≤ a) : Pkp a k = false := by
  unfold Pkp
  rw [beqF h1, Bool.false_and, Bool.false_or, Bool.and_eq_false_iff]
  rcases h2 with h2 | h2
  · left
    rw [Bool.eq_false_iff]
    intro h
    rw [Nat.ble_eq] at h
    omega
  · right
    rw [Bool.eq_false_iff]
    intro h
    rw [Nat.blt_eq] at h
    omega
theorem cI_kp {σ τ : xM} {n ni : Nat} {im : Nat → Sta} (hu : Upd Pkp σ τ) (h : cI σ n im ni) : cI τ n im ni := by
  obtain ⟨h1, h2, h3⟩ := h
  refine ⟨h1, (hu.2.1 32 1 rfl).trans h2, fun i hi => ?_⟩
  exact cS_upd hu (fun k => Pkp_no k (by omega) (by omega)) (fun k => Pkp_no k (by omega) (by omega)) (fun k => Pkp_no k (by omega) (by omega)) (h3 i hi)
/-- Past.keep -/
theorem f18N {σ : xM} {n na ni : Nat} {s : Sta} {ps im : Nat → Sta} (hS : Sh σ) (hn : n ≤ 6) (hc : cS σ 26 n s) (hP : cP σ n ps na) (hI : cI σ n im ni) : ∃ τ, f18 32 26 σ = some τ ∧ Upd Pkp σ τ ∧ cP τ n (consS s ps) (min (na + 1) 16) ∧ cI τ n im ni := by
  obtain ⟨p1, p2, nx, p3, p4, p5⟩ := hP
  obtain ⟨r1, r2⟩ := rf33 nx p3
  obtain ⟨τ1, t1, t2, t3⟩ := f47N (a := 35 + 3 * nx) (b := 26) hS r2 (by decide) (by omega) (by omega) (by omega) (by omega) (by omega) hn hc
  have hS1 := t2.sh hS
  have u1 := kp_st p3 t2
  have e2 : mI τ1 32 2 = nI nx := (t2.2.1 32 2 (Pst_no 2 ⟨by omega, by omega, by omega⟩)).trans p4
  have e0 : mI τ1 32 0 = nI na := (t2.2.1 32 0 (Pst_no 0 ⟨by omega, by omega, by omega⟩)).trans p2
  have u3 : Upd Pkp σ (wI (wI τ1 32 2 (nI ((nx + 1) % 16))) 32 0 (nI (min (na + 1) 16))) := (u1.wI rfl).wI rfl
  refine ⟨_, ?_, u3, ⟨Nat.min_le_right _ _, by rw [mI_w, if_pos ⟨rfl, rfl⟩], (nx + 1) % 16, Nat.mod_lt _ (by decide), by rw [mI_w, if_neg (by omega), mI_w, if_pos ⟨rfl, rfl⟩], fun i hi => ?_⟩, cI_kp u3 hI⟩
  · have q1 : gR σ 32 2 3 = some 33 := by simp only [acW hS]
    have q2 : gI σ 32 2 2 = some (nI nx) := by simp only [acW hS, p4]
    have q3 : gI τ1 32 2 2 = some (nI nx) := by simp only [acW hS1, e2]
    have q4 : rI (nI nx + 1) 16 = some (nI ((nx + 1) % 16)) := by
      rw [nI_1]
      exact rIN (x := nx + 1) (y := 16) (by omega) (by omega) (by omega)
    have q5 : pI τ1 32 2 2 (nI ((nx + 1) % 16)) = some (wI τ1 32 2 (nI ((nx + 1) % 16))) := by simp only [acW hS1]
    have S2 : Sh (wI τ1 32 2 (nI ((nx + 1) % 16))) := hS1
    have q6 : gI (wI τ1 32 2 (nI ((nx + 1) % 16))) 32 2 0 = some (nI na) := by
      simp only [acW S2]
      rw [mI_w, if_neg (by omega), e0]
    have q7 : ∀ x, pI (wI τ1 32 2 (nI ((nx + 1) % 16))) 32 2 0 x = some (wI (wI τ1 32 2 (nI ((nx + 1) % 16))) 32 0 x) := fun x => by simp only [acW S2]
    have q8 : (if nI na + 1 < 16 then nI na + 1 else 16) = nI (min (na + 1) 16) := by
      rw [nI_1]
      exact minN (a := na + 1) (b := 16) (by omega) (by omega)
    have q9 : cO σ (35 + 3 * nx) 4 = some () := by simp only [stA hS r2]
    unfold f18
    rw [q1, Option.bind_some, q2, Option.bind_some, aR33 hS p3, Option.bind_some, q9, Option.bind_some, t1, Option.bind_some, q3, Option.bind_some, q4, Option.bind_some, q5, Option.bind_some, q6, Option.bind_some, q8, q7, Option.bind_some]
  · have hP0 : ∀ a, a ≠ 32 → ∀ k, mI (wI (wI τ1 32 2 (nI ((nx + 1) % 16))) 32 0 (nI (min (na + 1) 16))) a k = mI τ1 a k := fun a ha k => by
      rw [mI_w, if_neg (fun h => ha h.1), mI_w, if_neg (fun h => ha h.1)]
    have hU : Upd (fun a _ => Nat.beq a 32) τ1 (wI (wI τ1 32 2 (nI ((nx + 1) % 16))) 32 0 (nI (min (na + 1) 16))) := (Upd.refl.wI rfl).wI rfl
    have hm : i < na + 1 ∧ i < 16 := by
      have := Nat.min_le_left (na + 1) 16
      have := Nat.min_le_right (na + 1) 16
      omega
    by_cases e : i = 0
    · rw [e, show ((nx + 1) % 16 + 15 - 0) % 16 = nx by omega, show consS s ps 0 = s from rfl]
      exact cS_upd hU (fun k => beqF (by omega)) (fun k => beqF (by omega)) (fun k => beqF (by omega)) t3
    · have e3 : ((nx + 1) % 16 + 15 - i) % 16 = (nx + 15 - (i - 1)) % 16 := by omega
      have e4 : (nx + 15 - (i - 1)) % 16 ≠ nx := by omega
      rw [e3, show consS s ps i = ps (i - 1) by unfold consS; rw [if_neg e]]
      have h5 := p5 (i - 1) (by omega)
      generalize (nx + 15 - (i - 1)) % 16 = m at e4 h5
      exact cS_upd hU (fun k => beqF (by omega)) (fun k => beqF (by omega)) (fun k => beqF (by omega)) (cS_upd t2 (fun k => Pst_no k ⟨by omega, by omega, by omega⟩) (fun k => Pst_no k ⟨by omega, by omega, by omega⟩) (fun k => Pst_no k ⟨by omega, by omega, by omega⟩) h5)
