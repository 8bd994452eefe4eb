/-! STATES: some die at once, a night; the class -/
def lea (s : Sta) (D : Nat) : Sta := (hasB s D, rg s, dif (lv s) D, ct s + catT s D, hr s, ng s, sd s)
theorem hasB_split {s : Sta} {D q : Nat} : hasB s D q = (if tb D q then 0 else hs s q) + gets s D q := by
  unfold hasB
  cases e : tb D q
  · simp
  · have : gets s D q = 0 := by
      unfold gets
      rw [sm_congr (g := fun _ => 0), sm_zero]
      intro i _
      rw [if_neg]
      intro h
      rw [Bool.and_eq_true, decide_eq_true_eq] at h
      have := endF_out _ _ _ _ h.2
      rw [e] at this
      cases this
    simp [this]
/-- nothing is lost -/
theorem lea_sum {n : Nat} {s : Sta} {D : Nat} (hk : Ok n s) (hsub : sub D (lv s)) : sm (hasB s D) n + catT s D = sm (hs s) n := by
  have h6 := hk.1
  have e1 : sm (hasB s D) n = sm (fun q => if tb D q then 0 else hs s q) n + sm (gets s D) n := by
    rw [← sm_add]
    exact sm_congr (fun q _ => hasB_split)
  have e2 : sm (gets s D) n + catT s D = sm (fun i => if tb D i then hs s i else 0) 6 := by
    unfold gets catT
    rw [sm_swap, ← sm_add]
    refine sm_congr (fun i hi => ?_)
    cases e : tb D i
    · simp [sm_zero]
    · cases e3 : enN s D i with
      | none =>
        rw [sm_congr (g := fun _ => 0) (fun q _ => by simp), sm_zero]
        simp
      | some b =>
        have hb : b < n := hk.lvn (en_live _ _ _ _ e3)
        rw [sm_one hb (fun q _ hq => by
          have : ¬ b = q := fun h => hq h.symm
          simp [this])]
        simp
  have e3 : sm (fun i => if tb D i then hs s i else 0) 6 = sm (fun i => if tb D i then hs s i else 0) n := sm_more h6 (fun i h1 _ => by
    rw [if_neg]
    intro h
    have := hk.lvn (hsub i h)
    omega)
  have e4 : sm (hs s) n = sm (fun q => if tb D q then 0 else hs s q) n + sm (fun i => if tb D i then hs s i else 0) n := by
    rw [← sm_add]
    refine sm_congr (fun i _ => ?_)
    cases tb D i <;> simp
  omega
theorem gets_dead {s : Sta} {D q : Nat} (hl : tb (lv s) q = false) : gets s D q = 0 := by
  unfold gets
  rw [sm_congr (g := fun _ => 0), sm_zero]
  intro i _
  rw [if_neg]
  intro h
  rw [Bool.and_eq_true, decide_eq_true_eq] at h
  have := en_live _ _ _ _ h.2
  rw [hl] at this
  cases this
theorem lea_ok {n : Nat} {s : Sta} {D : Nat} (hk : Ok n s) (hD : D < 64) (hsub : sub D (lv s)) : Ok n (lea s D) := by
  obtain ⟨a1, a2, a3, a4, a5, a6, a7, a8, a9⟩ := id hk
  refine ⟨a1, Nat.lt_of_le_of_lt Nat.and_le_left a2, fun q hq hl => ?_, ?_, a5, a6, a7, a8, a9⟩
  · have hl : tb (dif (lv s) D) q = false := hl
    rw [tb_dif hD (by omega)] at hl
    show hasB s D q = 0
    rw [hasB_split]
    cases e : tb D q
    · rw [e] at hl
      have hl : tb (lv s) q = false := by simpa using hl
      rw [gets_dead hl, a3 q hq hl]
      rfl
    · unfold gets
      have := hasB_split (s := s) (D := D) (q := q)
      unfold hasB at this
      rw [if_pos e, if_pos e] at this
      unfold gets at this
      rw [if_pos rfl]
      exact this.symm
  · have := lea_sum hk hsub
    show sm (hasB s D) n + (ct s + catT s D) ≤ 594
    omega
/-- State.leave -/
theorem f51N {σ : xM} {a n D : Nat} {s : Sta} (hS : Sh σ) (ha : a ∈ stL) (h93 : 93 ≠ a ∧ 93 ≠ a + 1 ∧ 93 ≠ a + 2) (hH : cH σ s) (hc : cS σ a n s) (hk : Ok n s) (hD : D < 64) (hsub : sub D (lv s)) : ∃ τ, f51 a (nI D) 92 σ = some τ ∧ Upd (Pst a) σ τ ∧ cS τ a n (lea s D) := by
  obtain ⟨c1, c2, c3, c4, c5, c6, c7⟩ := id hc
  have h6 := hk.1
  unfold f51
  refine lpI (fun m j τ => f51_2 m a (nI D) 92 (nI j) τ) 6 (fun j τ => Upd (Pst a) σ τ ∧ (∀ q, q < n → mI τ (a + 1) q = nI ((if tb D q then (if q < j then 0 else hs s q) else hs s q) + sm (fun i => if tb D i && decide (enN s D i = some q) then hs s i else 0) j)) ∧ mI τ a 3 = nI (ct s + sm (fun i => if tb D i && decide (enN s D i = none) then hs s i else 0) j) ∧ (∀ k, k ≠ 3 → mI τ a k = mI σ a k) ∧ (∀ k, mI τ (a + 2) k = mI σ (a + 2) k)) (fun o => ∃ τ, o = some τ ∧ Upd (Pst a) σ τ ∧ cS τ a n (lea s D)) (fun j hj m τ hI => ?_) (fun m τ hI => ?_) 6 1100 0 σ rfl (by omega) ?_
  · obtain ⟨hu, hh, hcat, hk3, hrg⟩ := hI
    have hS' := hu.sh hS
    have hH' : cH τ s := fun p hp => (hu.2.1 93 p (Pst_no p h93)).trans (hH p hp)
    show ∃ τ', _ ∧ f51_2 (m + 1) _ _ _ _ _ = f51_2 m _ _ _ _ _
    cases e1 : tb D j
    · refine ⟨τ, ⟨hu, fun q hq => ?_, ?_, hk3, hrg⟩, ?_⟩
      · rw [hh q hq]
        congr 1
        simp only [sm, e1]
        cases e2 : tb D q
        · simp
        · have : q ≠ j := fun e => by rw [e, e1] at e2; cases e2
          by_cases e3 : q < j
          · have : q < j + 1 := by omega
            simp [e3, this]
          · have : ¬ q < j + 1 := by omega
            simp [e3, this]
      · rw [hcat]
        simp [sm, e1]
      · rw [f51_2, if_neg (show ¬ (6 : Int32) ≤ nI j from nI_ge (b := 6) hj (by omega)), f124N hD hj]
        simp only [Option.bind_some, bo_0, e1, f51_72, nI_1]
        rw [if_pos trivial]
    · have hjn : j < n := hk.lvn (hsub j e1)
      have hv : mI τ (a + 1) j = nI (hs s j) := by
        rw [hh j hjn]
        congr 1
        rw [e1, sm_congr (g := fun _ => 0), sm_zero]
        · simp
        · intro i _
          rw [if_neg]
          intro h
          rw [Bool.and_eq_true, decide_eq_true_eq] at h
          have := endF_out _ _ _ _ h.2
          rw [e1] at this
          cases this
      have hS2 : Sh (wI τ (a + 1) j 0) := hS'
      have hH2 : cH (wI τ (a + 1) j 0) s := fun p hp => by rw [mI_w, if_neg (fun h => h93.2.1 h.1)]; exact hH' p hp
      cases e2 : enN s D j with
      | none =>
        refine ⟨wI (wI τ (a + 1) j 0) a 3 (nI (ct s + sm (fun i => if tb D i && decide (enN s D i = none) then hs s i else 0) (j + 1))), ⟨(hu.wI (Pst_1 a _)).wI (Pst_0 a _), fun q hq => ?_, ?_, fun k hk => ?_, fun k => ?_⟩, ?_⟩
        · rw [mI_w, if_neg (by omega), mI_w]
          by_cases e3 : q = j
          · rw [if_pos ⟨rfl, e3⟩, e3, e1, sm_congr (g := fun _ => 0), sm_zero]
            · simp [nI_0]
            · intro i _
              rw [if_neg]
              intro h
              rw [Bool.and_eq_true, decide_eq_true_eq] at h
              have := endF_out _ _ _ _ h.2
              rw [e1] at this
              cases this
          · rw [if_neg (fun h => e3 h.2), hh q hq]
            congr 1
            simp only [sm, e1, e2]
            by_cases e4 : q < j
            · have : q < j + 1 := by omega
              simp [e4, this]
            · have : ¬ q < j + 1 := by omega
              simp [e4, this]
        · rw [mI_w, if_pos ⟨rfl, rfl⟩]
        · rw [mI_w, if_neg (fun h => hk h.2), mI_w, if_neg (by omega)]
          exact hk3 k hk
        · rw [mI_w, if_neg (by omega), mI_w, if_neg (by omega)]
          exact hrg k
        · have hc3 : mI (wI τ (a + 1) j 0) a 3 = nI (ct s + sm (fun i => if tb D i && decide (enN s D i = none) then hs s i else 0) j) := by rw [mI_w, if_neg (by omega)]; exact hcat
          rw [f51_2, if_neg (show ¬ (6 : Int32) ≤ nI j from nI_ge (b := 6) hj (by omega)), f124N hD hj]
          simp only [Option.bind_some, bo_0, e1, f51_72, nI_1, stA hS' ha, hj, hv]
          rw [if_neg (by simp)]
          simp only [acC hS2, f59N hS2 hH2 hD hj, e2, Option.bind_some, stA hS2 ha, hc3, nI_add]
          rw [if_pos (show ob none = -2 from rfl)]
          simp [sm, e1, e2, Nat.add_assoc]
      | some b =>
        have hb6 := enN_6 e2
        have hbn : b < n := hk.lvn (en_live _ _ _ _ e2)
        have hbD : tb D b = false := endF_out _ _ _ _ e2
        have hbj : b ≠ j := fun e => by rw [e, e1] at hbD; cases hbD
        refine ⟨wI (wI τ (a + 1) j 0) (a + 1) b (nI (hs s b + sm (fun i => if tb D i && decide (enN s D i = some b) then hs s i else 0) (j + 1))), ⟨(hu.wI (Pst_1 a _)).wI (Pst_1 a _), fun q hq => ?_, ?_, fun k hk => ?_, fun k => ?_⟩, ?_⟩
        · rw [mI_w]
          by_cases e5 : q = b
          · rw [if_pos ⟨rfl, e5⟩, e5, hbD]
            simp
          · rw [if_neg (fun h => e5 h.2), mI_w]
            by_cases e3 : q = j
            · rw [if_pos ⟨rfl, e3⟩, e3, e1, sm_congr (g := fun _ => 0), sm_zero]
              · simp [nI_0]
              · intro i _
                rw [if_neg]
                intro h
                rw [Bool.and_eq_true, decide_eq_true_eq] at h
                have := endF_out _ _ _ _ h.2
                rw [e1] at this
                cases this
            · rw [if_neg (fun h => e3 h.2), hh q hq]
              congr 1
              have hbq : ¬ b = q := fun h => e5 h.symm
              simp only [sm, e1, e2]
              by_cases e4 : q < j
              · have : q < j + 1 := by omega
                simp [e4, this, hbq]
              · have : ¬ q < j + 1 := by omega
                simp [e4, this, hbq]
        · rw [mI_w, if_neg (by omega), mI_w, if_neg (by omega), hcat]
          simp [sm, e1, e2]
        · rw [mI_w, if_neg (by omega), mI_w, if_neg (by omega)]
          exact hk3 k hk
        · rw [mI_w, if_neg (by omega), mI_w, if_neg (by omega)]
          exact hrg k
        · have hvb : mI (wI τ (a + 1) j 0) (a + 1) b = nI (hs s b + sm (fun i => if tb D i && decide (enN s D i = some b) then hs s i else 0) j) := by
            rw [mI_w, if_neg (fun h => hbj h.2), hh b hbn, hbD]
            simp
          rw [f51_2, if_neg (show ¬ (6 : Int32) ≤ nI j from nI_ge (b := 6) hj (by omega)), f124N hD hj]
          simp only [Option.bind_some, bo_0, e1, f51_72, nI_1, stA hS' ha, hj, hv]
          rw [if_neg (by simp)]
          simp only [acC hS2, f59N hS2 hH2 hD hj, e2, Option.bind_some]
          rw [if_neg (ob_ne hb6)]
          simp only [ob_some, stA hS2 ha, hb6, Option.bind_some, hvb, nI_add]
          simp [sm, e1, e2, Nat.add_assoc]
  · obtain ⟨hu, hh, hcat, hk3, hrg⟩ := hI
    have hS' := hu.sh hS
    refine ⟨wI τ a 4 (nI (dif (lv s) D)), ?_, hu.wI (Pst_0 a _), ?_⟩
    · show f51_2 (m + 1) _ _ _ _ _ = _
      rw [f51_2, if_pos (show (6 : Int32) ≤ nI 6 by decide)]
      unfold f51_78
      simp only [stA hS' ha, Option.bind_some, hk3 4 (by omega), c3, difN _ hk.lv64 _ hD]
    · refine ⟨fun q hq => ?_, fun p hp q hq => ?_, ?_, ?_, ?_, ?_, ?_⟩
      · rw [mI_w, if_neg (by omega), hh q hq]
        show _ = nI (hasB s D q)
        rw [hasB_split]
        congr 1
        unfold gets
        have : q < 6 := by omega
        simp [this]
      · rw [mI_w, if_neg (by omega), hrg]
        exact c2 p hp q hq
      · rw [mI_w, if_pos ⟨rfl, rfl⟩]
        rfl
      · rw [mI_w, if_neg (by omega), hcat]
        rfl
      · rw [mI_w, if_neg (by omega), hk3 0 (by omega)]
        exact c5
      · rw [mI_w, if_neg (by omega), hk3 2 (by omega)]
        exact c6
      · rw [mI_w, if_neg (by omega), hk3 1 (by omega)]
        exact c7
  · refine ⟨Upd.refl, fun q hq => ?_, ?_, fun k _ => rfl, fun k => rfl⟩
    · rw [c1 q hq]
      congr 1
      cases tb D q <;> simp [sm]
    · rw [c4]
      simp [sm]
