/-! HOURS THAT AREN'T SURE: the class's answers -/
section CLASS
variable {σ : xM} {C : Cty} {s : Sta}
theorem cQ_fi {α : Type} {τ : xM} {x : α} {r : Int32} (hu : Upd Pfi (wI σ 0 8 r) τ) : cQ σ (some (x, τ)) (x, r) := ⟨τ, rfl, (Upd.refl.wI rfl).trans (fi_Q hu), by rw [hu.2.1 0 8 rfl, mI_w, if_pos ⟨rfl, rfl⟩]⟩
theorem c92 (h : QC σ C s) : cQ σ (f92 0 σ) (aFit C) := by
  obtain ⟨hS, hp, hc, hk, hC⟩ := id h
  unfold f92 f92_13 aFit
  simp only [acC hS, Option.bind_some, f115_eq hS hk.1 hp, f114_eq hS, bo_ref, bo_0]
  by_cases e : 0 < pe C
  · obtain ⟨hS1, hp1, hc1, -, hC1⟩ := QC_w h 0
    obtain ⟨hC1, hO, -⟩ := hC1 e
    obtain ⟨τ, t1, t2⟩ := f10N hS1 hC1 hO
    rw [if_neg (by simp [e]), if_pos e]
    simp only [if_true, acC hS1, acW hS1, Option.bind_some, t1]
    exact cQ_fi t2
  · rw [if_pos (by simp [e]), if_neg e]
    simpa using cQ_w
theorem c93 (h : QC σ C s) (i k : Int32) : cQ σ (f93 0 i k σ) (aFat C i k) := by
  obtain ⟨hS, hp, hc, hk, hC⟩ := id h
  have hno : ∀ τ, τ = σ → cQ σ (f93_31 0 i k 0 τ) (-1, 1) := by
    rintro τ rfl
    unfold f93_31 f93_32
    simp only [acC hS, Option.bind_some, f114_eq hS, bo_ref]
    simpa using cQ_w
  unfold f93 aFat okF
  simp only [acC hS, Option.bind_some, f115_eq hS hk.1 hp, bo_0]
  by_cases e : 0 < pe C
  · obtain ⟨hC0, hO, -⟩ := hC e
    have hn := hO.2.2.2.2.2.2.2.2.2.2.2.1
    rw [if_neg (by simp [e]), decide_eq_true e]
    by_cases e1 : i < 0
    · rw [if_pos e1, decide_eq_true e1]
      exact hno σ rfl
    · rw [if_neg e1, decide_eq_false e1]
      by_cases e2 : k < 0
      · rw [if_pos e2, decide_eq_true e2]
        exact hno σ rfl
      · rw [if_neg e2, decide_eq_false e2, hC0.1.2.2.2.2.2.1]
        by_cases e3 : nI (nHe C) ≤ k
        · rw [if_pos e3, decide_eq_true e3]
          exact hno σ rfl
        · rw [if_neg e3, decide_eq_false e3, if_pos (by rfl)]
          obtain ⟨i, hi, rfl⟩ := nI_of e1
          obtain ⟨k, hk', rfl⟩ := nI_of e2
          have hkn : k < nHe C := by
            rcases Nat.lt_or_ge k (nHe C) with h | h
            · exact h
            · exact absurd (nI_le h hk') e3
          obtain ⟨hS1, hp1, hc1, -, hC1⟩ := QC_w h 0
          obtain ⟨hC1, -, -⟩ := hC1 e
          obtain ⟨τ, t1, t2, t3⟩ := f11N hS1 hC1 hO hi
          have hSτ := t2.sh hS1
          rw [show pN (nI i) = i from nI_clamp hi, show pN (nI k) = k from nI_clamp hk']
          unfold f93_32 f93_64
          simp only [acC hS, Option.bind_some, f114_eq hS, bo_ref, if_true, acC hS1, acW hS1, t1]
          cases e4 : fnd C i with
          | none =>
            simp only [if_true, acC hSτ, Option.bind_some, f114_eq hSτ, bo_ref]
            rw [if_pos (by decide), if_neg (by decide)]
            exact ⟨_, rfl, ((Upd.refl.wI rfl).trans (fi_Q t2)).wI rfl, by rw [mI_w, if_pos ⟨rfl, rfl⟩]⟩
          | some x =>
            have hx := (fs_lt _ _ _ e4).1
            have hcb := cds_b hO
            have hx31 : x < 2 ^ 31 := by omega
            have hS2 : Sh (wI τ 0 8 0) := hSτ
            have hf8 := f8N (k := k) hS2 hO (foA_upd (P := fun a j => Nat.beq a 0 && Nat.beq j 8) (Upd.refl.wI rfl) (fun a j h1 h2 => by rw [beqF (by omega)]; rfl) t3.1) hx31 (by omega)
            simp only [acC hSτ, Option.bind_some, f114_eq hSτ, bo_ref, acC hS2, acW hS2, hf8]
            rw [if_neg (show ¬ nI x = -1 from fun hh => by
              have := nI_pos hx31
              rw [hh] at this
              exact absurd (by decide) this), if_pos (by decide), if_pos (by decide)]
            exact ⟨_, rfl, ((Upd.refl.wI rfl).trans (fi_Q t2)).wI rfl, by rw [mI_w, if_pos ⟨rfl, rfl⟩]⟩
  · rw [if_pos (by simp [e]), decide_eq_false e]
    exact hno σ rfl
theorem two_nI {n : Nat} {p q : Int32} (hn : n ≤ 6) (h : two n p q = true) : ∃ i j, i < n ∧ j < n ∧ i ≠ j ∧ p = nI i ∧ q = nI j := by
  unfold two at h
  rw [Bool.and_eq_true, Bool.and_eq_true, decide_eq_true_eq] at h
  obtain ⟨i, hi, rfl⟩ := isP_nI hn h.1.1
  obtain ⟨j, hj, rfl⟩ := isP_nI hn h.1.2
  exact ⟨i, j, hi, hj, fun e => h.2 (by rw [e]), rfl, rfl⟩
theorem c94 (h : QC σ C s) (p q : Int32) : cQ σ (f94 0 p q σ) (aHby C p q) := by
  obtain ⟨hS, hp, hc, hk, hC⟩ := id h
  unfold f94 f94_15 aHby
  simp only [acC hS, Option.bind_some, f117_eq hS hk.1 hp, f114_eq hS, bo_ref, bo_0]
  cases e : two (pe C) p q
  · rw [if_pos rfl]
    simpa using cQ_w
  · obtain ⟨i, j, hi, hj, hij, rfl, rfl⟩ := two_nI hk.1 e
    have h6 := hk.1
    obtain ⟨hS1, hp1, hc1, -, hC1⟩ := QC_w h 0
    obtain ⟨hC1, hO, -⟩ := hC1 (by omega)
    obtain ⟨τ, t1, t2⟩ := f12N hS1 hC1 hO (show i < 6 by omega) (show j < 6 by omega)
    rw [if_neg (by simp), if_pos rfl, pN_nI (show i < 6 by omega), pN_nI (show j < 6 by omega)]
    simp only [if_true, acC hS1, acW hS1, Option.bind_some, t1]
    exact cQ_fi t2
theorem c95 (h : QC σ C s) : cQ σ (f95 0 σ) (aLok C) := by
  obtain ⟨hS, hp, hc, hk, hC⟩ := id h
  unfold f95 f95_13 aLok
  simp only [acC hS, Option.bind_some, f115_eq hS hk.1 hp, f114_eq hS, bo_ref, bo_0]
  by_cases e : 0 < pe C
  · obtain ⟨hS1, hp1, hc1, -, hC1⟩ := QC_w h 0
    obtain ⟨hC1, hO, -⟩ := hC1 e
    obtain ⟨τ, t1, t2, -⟩ := f13N hS1 hC1 hO
    rw [if_neg (by simp [e]), if_pos e]
    simp only [if_true, acC hS1, acW hS1, Option.bind_some, t1]
    exact cQ_fi t2
  · rw [if_pos (by simp [e]), if_neg e]
    simpa using cQ_w
theorem lok_lt {k : Nat} (h : lok C = some k) : k < nHe C := by
  unfold lok at h
  split at h
  · cases h
  · exact miF_lt _ _ h
theorem c96 (h : QC σ C s) : cQ σ (f96 0 σ) (aLol C) := by
  obtain ⟨hS, hp, hc, hk, hC⟩ := id h
  unfold f96 f96_13 f96_52 aLol
  simp only [acC hS, Option.bind_some, f115_eq hS hk.1 hp, f114_eq hS, bo_ref, bo_0]
  by_cases e : 0 < pe C
  · obtain ⟨hS1, hp1, hc1, -, hC1⟩ := QC_w h 0
    obtain ⟨hC1, hO, -⟩ := hC1 e
    have hn := hO.2.2.2.2.2.2.2.2.2.2.2.1
    obtain ⟨τ, t1, t2, t3⟩ := f13N hS1 hC1 hO
    have hSτ := t2.sh hS1
    rw [if_neg (by simp [e]), if_pos e]
    simp only [if_true, acC hS1, acW hS1, Option.bind_some, t1]
    cases e2 : lok C with
    | none =>
      rw [if_pos (show ob none = -2 from rfl)]
      exact cQ_fi t2
    | some k =>
      have hk' := lok_lt e2
      rw [if_neg (ob_ne (show k < 6 by omega))]
      simp only [acC hSτ, acW hSτ, Option.bind_some, ob_some, f15N hSτ hO t3 hk']
      exact cQ_fi t2
  · rw [if_pos (by simp [e]), if_neg e]
    simpa using cQ_w
end CLASS
