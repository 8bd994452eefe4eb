/-! THE TEXT: the reference's reader: states, words, names -/
def hasR (σ : xM) (c : Nat) : Prop := Sh σ ∧ ShT σ c ∧ mR σ 102 4 = some c
theorem acGr {σ : xM} {c : Nat} (h : hasR σ c) : gR σ 102 9 4 = some c := gR_ok (sh_n h.1 (by decide)) (sh_k h.1 (by decide)) h.2.2
theorem Upd.hasR {P : Nat → Nat → Bool} {σ τ : xM} {c : Nat} (h : Upd P σ τ) (hT : hasR σ c) : hasR τ c := by
  obtain ⟨hS, hT, h3⟩ := hT
  refine ⟨h.sh hS, ?_, ?_⟩
  · obtain ⟨⟨a1, a2, a3, a4, -⟩, -⟩ := h
    unfold ShT
    rw [a1, a2, a3, a4]
    exact hT
  · rw [h.1.2.2.1]
    exact h3
/-- the reference's city under way: its hour may be none -/
def mCx (σ : xM) (c : Nat) (C : Cty) (h : Int32) : Prop := (mI σ c 0 = h ∧ mI σ c 1 = nI (gv C) ∧ mI σ c 2 = nI (pe C) ∧ mI σ c 3 = nI (nNe C) ∧ mI σ c 4 = nI (nAs C) ∧ mI σ c 5 = nI (nHe C) ∧ mI σ c 6 = nI (nWe C)) ∧ (∀ p, p < pe C → mI σ (c + 1) p = nI (kd C p) ∧ mI σ (c + 2) p = nI (h0 C p) ∧ mI σ (c + 3) p = nI (dz C p)) ∧ (∀ p, p < 6 → mI σ (c + 4) p = nI (nr C p) ∧ mI σ (c + 5) p = wM (wn C p)) ∧ (∀ p, p < 6 → ∀ q, q < 6 → mI σ (c + 6) (6 * p + q) = rM (r0 C p q)) ∧ (∀ k, k < nHe C → mI σ (c + 7) k = nI (hb C k) ∧ mI σ (c + 8) k = nI (ho C k) ∧ mI σ (c + 9) k = nI (hg C k))
def dh (D : Drf) : Int32 := if dB D then nI (hr0 (dC D)) else -1
def mRd (σ : xM) (c : Nat) (f : Nat → Int32) (N e : Nat) (D : Drf) : Prop := hasR σ c ∧ rmB σ f N ∧ e ≤ N ∧ mTk σ f N e ∧ mI σ 102 12 = 0 ∧ mCx σ c (dC D) (dh D) ∧ ∀ p, p < pe (dC D) → mJ σ (c + 10) p = lN (wdM (dN D p))
/-- a fault told -/
def mOv (τ : xM) (c : Nat) (x : Nat × Nat) : Prop := hasR τ c ∧ mI τ 102 9 = 5 ∧ mI τ 102 12 = nI x.1 ∧ mI τ 102 13 = nI x.2 ∧ ∃ n, n ≤ 6 ∧ mI τ c 2 = nI n
def Pfl : Nat → Nat → Bool := fun a k => Nat.beq a 102 && [8, 9, 10, 11, 12, 13, 14].any (fun b => Nat.beq k b)
theorem Pfl_no {a : Nat} (k : Nat) (h : a ≠ 102) : Pfl a k = false := by
  unfold Pfl
  rw [beqF h]
  rfl
theorem fl_go {σ τ : xM} (h : Upd Pgo σ τ) : Upd Pfl σ τ := h.mono (fun a k hq => by
  unfold Pgo
  unfold Pfl at hq
  rcases Bool.and_eq_false_iff.mp hq with h1 | h1
  · rw [h1]; rfl
  · rw [anyF (l := [8, 9, 10, 11, 14]) (fun b hb e => by
      have := List.any_eq_false.mp h1 b (by simp at hb ⊢; omega)
      rw [e] at this
      simp at this)]
    simp)
theorem mCx_fl {σ τ : xM} {c : Nat} {C : Cty} {h : Int32} (hu : Upd Pfl σ τ) (hc : 115 ≤ c) (hm : mCx σ c C h) : mCx τ c C h := by
  obtain ⟨⟨a1, a2, a3, a4, a5, a6, a7⟩, c2, c3, c4, c5⟩ := hm
  have e : ∀ i k, mI τ (c + i) k = mI σ (c + i) k := fun i k => hu.2.1 _ _ (Pfl_no k (by omega))
  have e0 : ∀ k, mI τ c k = mI σ c k := fun k => hu.2.1 _ _ (Pfl_no k (by omega))
  refine ⟨⟨?_, ?_, ?_, ?_, ?_, ?_, ?_⟩, fun p hp => ?_, fun p hp => ?_, fun p hp q hq => ?_, fun k hk => ?_⟩
  · rw [e0]; exact a1
  · rw [e0]; exact a2
  · rw [e0]; exact a3
  · rw [e0]; exact a4
  · rw [e0]; exact a5
  · rw [e0]; exact a6
  · rw [e0]; exact a7
  · rw [e, e, e]; exact c2 p hp
  · rw [e, e]; exact c3 p hp
  · rw [e]; exact c4 p hp q hq
  · rw [e, e, e]; exact c5 k hk
theorem mOv_fl {σ τ : xM} {c : Nat} {x : Nat × Nat} (hu : Upd (fun a k => Nat.beq a 102 && Nat.beq k 15) σ τ) (h : mOv σ c x) : mOv τ c x := by
  obtain ⟨h1, h2, h3, h4, n, h5, h6⟩ := h
  have hc := h1.2.1.1
  exact ⟨hu.hasR h1, (hu.2.1 102 9 rfl).trans h2, (hu.2.1 102 12 rfl).trans h3, (hu.2.1 102 13 rfl).trans h4, n, h5, (hu.2.1 c 2 (show (Nat.beq c 102 && Nat.beq 2 15) = false by rw [beqF (show c ≠ 102 by omega)]; rfl)).trans h6⟩
section REF
variable {σ : xM} {c : Nat} {f : Nat → Int32} {N e : Nat} {D : Drf} {x : Nat × Nat}
-- ===== behind a fault nothing is done
theorem o165 (h : mOv σ c x) : f165 102 σ = some σ := by
  unfold f165
  simp only [acM h.1.1, Option.bind_some, h.2.1]
  rfl
theorem o166 (h : mOv σ c x) (k : Int32) : f166 102 k σ = some σ := by
  unfold f166
  simp only [acM h.1.1, Option.bind_some, h.2.1]
  rfl
theorem o167 (h : mOv σ c x) (w : UInt32) : f167 102 w σ = some (bo false, σ) := by
  unfold f167 f167_24 f167_25
  simp only [acM h.1.1, Option.bind_some, h.2.1]
  rfl
theorem o169 (h : mOv σ c x) (w : UInt32) (lo_ hi : Int32) : f169 102 w lo_ hi σ = some (lo_, σ) := by
  unfold f169 f169_13 f169_50 f169_66
  simp only [acM h.1.1, Option.bind_some, o167 h, bo_0, if_true, o166 h, o165 h, h.2.1]
  rfl
theorem o170 (h : mOv σ c x) : f170 102 σ = some (bo false, σ) := by
  unfold f170 f170_44
  simp only [acM h.1.1, Option.bind_some, h.2.1]
  rfl
/-- find, whatever the word -/
theorem f147G (hR : hasR σ c) {n : Nat} (hn : n ≤ 6) (h2 : mI σ c 2 = nI n) (w : Int64) : ∃ o : Option Nat, f147 c w σ = some (obB o, σ) ∧ (∀ p, o = some p → p < n) := by
  have hc := hR.2.1
  have hj := (acTi hc).2.2.2.2.2.2.2.2.2
  refine ⟨fs (fun p => decide (lg_cmp (mJ σ (c + 10) p) w = 0)) 0 n, ?_, fun p e => by have := (fs_lt _ _ _ e).1; omega⟩
  unfold f147
  refine lpE (fun m j => f147_2 m c w (nI j) σ) n (fun p => decide (lg_cmp (mJ σ (c + 10) p) w = 0)) (fun o => some (obB o, σ)) (fun j hj' hc' m r hn' => ?_) (fun j hj' hc' m => ?_) (fun m => ?_) n 1100 0 (by omega) (by omega)
  · have hn' : f147_2 m c w (nI (j + 1)) σ = r := hn'
    rw [decide_eq_false_iff_not] at hc'
    show f147_2 (m + 1) _ _ _ _ = _
    rw [f147_2]
    simp only [acT0 hc, Option.bind_some, h2, aJ_nI hj (show j < 6 by omega) (by decide), nI_1]
    rw [if_neg (nI_ge hj' (by omega)), if_neg hc']
    exact hn'
  · rw [decide_eq_true_eq] at hc'
    show f147_2 (m + 1) _ _ _ _ = _
    rw [f147_2]
    simp only [acT0 hc, Option.bind_some, h2, aJ_nI hj (show j < 6 by omega) (by decide)]
    rw [if_neg (nI_ge hj' (by omega)), if_pos hc']
    rfl
  · show f147_2 (m + 1) _ _ _ _ = _
    rw [f147_2]
    simp only [acT0 hc, Option.bind_some, h2]
    rw [if_pos (nI_le (by omega) (by omega))]
    rfl
theorem o172 (h : mOv σ c x) : f172 102 σ = some (0, σ) := by
  obtain ⟨h1, h2, h3, h4, n, h5, h6⟩ := id h
  obtain ⟨o, o1, -⟩ := f147G h1 h5 h6 (mJ σ 102 14)
  unfold f172 f172_12 f172_34 f172_47
  simp only [acM h1.1, acGr h1, acT0 h1.2.1, Option.bind_some, o170 h, bo_0, if_true, o166 h, o1, h2]
  split <;> rfl
theorem o171 (h : mOv σ c x) (a b : Int32) : f171 102 a b σ = some σ := by
  obtain ⟨h1, h2, -⟩ := id h
  unfold f171 f171_10 f171_27
  simp only [acM h1.1, acGr h1, acT0 h1.2.1, Option.bind_some, o166 h, o165 h]
  repeat' split
  all_goals rfl
theorem o168 (h : mOv σ c x) : f168 102 σ = some (bo false, σ) := by
  unfold f168 f168_13 f168_22
  simp only [acM h.1.1, Option.bind_some, h.2.1]
  rfl
theorem o178 (h : mOv σ c x) : ∃ τ, f178 102 σ = some (0, τ) ∧ Upd (fun a k => Nat.beq a 102 && Nat.beq k 15) σ τ ∧ mOv τ c x := by
  have u : Upd (fun a k => Nat.beq a 102 && Nat.beq k 15) σ (wI σ 102 15 0) := Upd.refl.wI rfl
  have h' := mOv_fl u h
  refine ⟨_, ?_, u, h'⟩
  unfold f178 f178_32 f178_86 f178_115
  simp only [acM h.1.1, Option.bind_some, o172 h, h.2.1, o165 h, acM h'.1.1, h'.2.1, o165 h']
  rfl
-- ===== in a draft
theorem mk_5 (k : Nat) : ¬ nI (mk k) = 5 := by
  unfold mk
  repeat' split
  all_goals decide
/-- goesOn -/
theorem m165 (h : mRd σ c f N e D) : ∃ τ, f165 102 σ = some τ ∧ Upd Pfl σ τ ∧ mRd τ c f N (tkE f N e) D := by
  obtain ⟨h1, h2, h3, h4, h5, h6, h7⟩ := h
  have hc := h1.2.1.1
  obtain ⟨τ, t1, t2, t3⟩ := f165N h2 (tkE_b h3).2 h4.2.1 (by rw [h4.2.2.1]; exact mk_5 _)
  exact ⟨τ, t1, fl_go t2, t2.hasR h1, rmB_upd t2 rfl (fun _ => rfl) h2, (tkE_b h3).2, t3, (t2.2.1 102 12 rfl).trans h5, mCx_fl (fl_go t2) hc h6, fun p hp => ((fl_go t2).2.2 _ _ (Pfl_no _ (by omega))).trans (h7 p hp)⟩
/-- flaw -/
def fla (σ : xM) (k : Int32) (pl : Nat) : xM := wI (wI (wI σ 102 12 k) 102 13 (nI pl)) 102 9 5
theorem m166 (h : mRd σ c f N e D) (hp : pe (dC D) ≤ 6) (k : Nat) : f166 102 (nI k) σ = some (fla σ (nI k) (tkS f N e)) ∧ Upd Pfl σ (fla σ (nI k) (tkS f N e)) ∧ mOv (fla σ (nI k) (tkS f N e)) c (k, tkS f N e) := by
  obtain ⟨h1, h2, h3, h4, h5, h6, h7⟩ := h
  have hS := h1.1
  have hc := h1.2.1.1
  have u : Upd Pfl σ (fla σ (nI k) (tkS f N e)) := ((Upd.refl.wI rfl).wI rfl).wI rfl
  have S1 : Sh (wI σ 102 12 (nI k)) := hS
  have S2 : Sh (wI (wI σ 102 12 (nI k)) 102 13 (nI (tkS f N e))) := hS
  have e10 : mI (wI σ 102 12 (nI k)) 102 10 = nI (tkS f N e) := by rw [mI_w, if_neg (by omega)]; exact h4.1
  refine ⟨?_, u, u.hasR h1, ?_, ?_, ?_, pe (dC D), hp, ?_⟩
  · unfold f166
    simp only [acM hS, Option.bind_some, h4.2.2.1]
    rw [if_neg (mk_5 _)]
    simp only [acM S1, Option.bind_some, e10, acM S2]
    rfl
  · unfold fla; rw [mI_w, if_pos ⟨rfl, rfl⟩]
  · unfold fla; rw [mI_w, if_neg (by omega), mI_w, if_neg (by omega), mI_w, if_pos ⟨rfl, rfl⟩]
  · unfold fla; rw [mI_w, if_neg (by omega), mI_w, if_pos ⟨rfl, rfl⟩]
  · rw [u.2.1 c 2 (Pfl_no _ (by omega))]; exact h6.1.2.2.1
theorem mk_2 : (nI (mk (tkK f N e)) = 2) = (tkK f N e = 1) := by
  have h := tkK_4 (f := f) (N := N) (e := e)
  generalize tkK f N e = k at h
  have : ∀ k, k < 5 → ((nI (mk k) = 2) ↔ k = 1) := by decide
  exact propext (this k (by omega))
theorem mk_3 : (nI (mk (tkK f N e)) = 3) = (tkK f N e = 2) := by
  have h := tkK_4 (f := f) (N := N) (e := e)
  generalize tkK f N e = k at h
  have : ∀ k, k < 5 → ((nI (mk k) = 3) ↔ k = 2) := by decide
  exact propext (this k (by omega))
/-- isWord -/
theorem m167 (h : mRd σ c f N e D) {w : List Nat} {i : Nat} (hw : okW w) (hx : xpk (UInt32.ofNat i) = some (lN (wdM w))) : f167 102 (UInt32.ofNat i) σ = some (bo (isW f N w e), σ) := by
  obtain ⟨h1, h2, h3, h4, h5, h6, h7⟩ := h
  unfold f167 f167_24 f167_25 isW
  simp only [acM h1.1, Option.bind_some, h4.2.2.1, mk_2, hx, rZ0, rZ1]
  by_cases e1 : tkK f N e = 1
  · rw [if_pos e1, h4.2.2.2.1 e1]
    simp only [wM_eq (tkW_ok h3 e1) hw]
    by_cases e2 : tkW f N e = w
    · rw [if_pos e2, decide_eq_true ⟨e1, e2⟩]
    · rw [if_neg e2, decide_eq_false (fun h => e2 h.2)]
  · rw [if_neg e1, decide_eq_false (fun h => e1 h.1)]
/-- isName -/
theorem m170 (h : mRd σ c f N e D) : f170 102 σ = some (bo (nmAt f N e), σ) := by
  have hS := h.1.1
  have h9 := h.2.2.2.1.2.2.1
  unfold f170 f170_44 f170_77 f170_78 nmAt isNm
  simp only [acM hS, Option.bind_some, h9, mk_2, m167 h kCity_ok.1 kCity_ok.2.2, m167 h kPerson_ok.1 kPerson_ok.2.2, m167 h kNear_ok.1 kNear_ok.2.2, m167 h kAsked_ok.1 kAsked_ok.2.2, m167 h kHeard_ok.1 kHeard_ok.2.2, m167 h kWent_ok.1 kWent_ok.2.2, m167 h kCat_ok.1 kCat_ok.2.2, bo_0, rZ0, rZ1]
  unfold isW
  by_cases e1 : tkK f N e = 1
  · simp only [e1, true_and, decide_true, Bool.true_and, if_true]
    by_cases a1 : tkW f N e = kCity
    · simp [a1]
    · by_cases a2 : tkW f N e = kPerson
      · simp [a1, a2]
      · by_cases a3 : tkW f N e = kNear
        · simp [a1, a2, a3]
        · by_cases a4 : tkW f N e = kAsked
          · simp [a1, a2, a3, a4]
          · by_cases a5 : tkW f N e = kHeard
            · simp [a1, a2, a3, a4, a5]
            · by_cases a6 : tkW f N e = kWent
              · simp [a1, a2, a3, a4, a5, a6]
              · by_cases a7 : tkW f N e = kCat
                · simp [a1, a2, a3, a4, a5, a6, a7]
                · simp [a1, a2, a3, a4, a5, a6, a7]
  · simp [e1]
/-- find -/
theorem m147 (h : mRd σ c f N e D) (hO : OkD D) (hk1 : tkK f N e = 1) : f147 c (mJ σ 102 14) σ = some (obB (bea D (tkW f N e)), σ) := by
  obtain ⟨h1, h2, h3, h4, h5, h6, h7⟩ := h
  have hp6 := hO.1.1
  have hc := h1.2.1
  have hj := (acTi hc).2.2.2.2.2.2.2.2.2
  have hw := tkW_ok h3 hk1
  rw [h4.2.2.2.1 hk1]
  unfold f147 bea
  refine lpE (fun m j => f147_2 m c (lN (wdM (tkW f N e))) (nI j) σ) (pe (dC D)) (fun p => decide (dN D p = tkW f N e)) (fun o => some (obB o, σ)) (fun j hj' hc' m r hn' => ?_) (fun j hj' hc' m => ?_) (fun m => ?_) (pe (dC D)) 1100 0 (by omega) (by omega)
  · have hn' : f147_2 m c (lN (wdM (tkW f N e))) (nI (j + 1)) σ = r := hn'
    rw [decide_eq_false_iff_not] at hc'
    show f147_2 (m + 1) _ _ _ _ = _
    rw [f147_2]
    simp only [acT0 hc, Option.bind_some, h6.1.2.2.1, aJ_nI hj (show j < 6 by omega) (by decide), h7 j hj', wM_eq (hO.2.2.2.2.1 j hj') hw, nI_1]
    rw [if_neg (nI_ge hj' (by omega)), if_neg hc']
    exact hn'
  · rw [decide_eq_true_eq] at hc'
    show f147_2 (m + 1) _ _ _ _ = _
    rw [f147_2]
    simp only [acT0 hc, Option.bind_some, h6.1.2.2.1, aJ_nI hj (show j < 6 by omega) (by decide), h7 j hj', wM_eq (hO.2.2.2.2.1 j hj') hw]
    rw [if_neg (nI_ge hj' (by omega)), if_pos hc']
    rfl
  · show f147_2 (m + 1) _ _ _ _ = _
    rw [f147_2]
    simp only [acT0 hc, Option.bind_some, h6.1.2.2.1]
    rw [if_pos (nI_le (by omega) (by omega))]
    rfl
/-- personAtHand -/
theorem m172 (h : mRd σ c f N e D) (hO : OkD D) : (∃ x τ, pAt f N D e = .inl x ∧ f172 102 σ = some (0, τ) ∧ Upd Pfl σ τ ∧ mOv τ c x) ∨ (∃ p, pAt f N D e = .inr p ∧ p < pe (dC D) ∧ f172 102 σ = some (nI p, σ)) := by
  have hp6 := hO.1.1
  have hR := h.1
  have h9 := h.2.2.2.1.2.2.1
  unfold pAt
  cases e1 : nmAt f N e
  · rw [if_neg (by simp)]
    obtain ⟨a1, a2, a3⟩ := m166 h hp6 1
    obtain ⟨o, o1, -⟩ := f147G a3.1 a3.2.2.2.2.choose_spec.1 a3.2.2.2.2.choose_spec.2 (mJ (fla σ (nI 1) (tkS f N e)) 102 14)
    refine Or.inl ⟨_, _, rfl, ?_, a2, a3⟩
    unfold f172 f172_12 f172_34 f172_47
    simp only [acM hR.1, Option.bind_some, m170 h, e1, bo_0, if_true, show (1 : Int32) = nI 1 from rfl, a1, acM a3.1.1, acGr a3.1, acT0 a3.1.2.1, o1, o166 a3, a3.2.1]
    split <;> rfl
  · rw [if_pos rfl]
    have hk1 : tkK f N e = 1 := by
      unfold nmAt at e1
      rw [Bool.and_eq_true, decide_eq_true_eq] at e1
      exact e1.1
    have h147 := m147 h hO hk1
    cases e2 : bea D (tkW f N e) with
    | none =>
      rw [e2] at h147
      obtain ⟨a1, a2, a3⟩ := m166 h hp6 2
      refine Or.inl ⟨_, _, rfl, ?_, a2, a3⟩
      unfold f172 f172_12 f172_34 f172_47
      simp only [acM hR.1, acGr hR, acT0 hR.2.1, Option.bind_some, m170 h, e1, bo_0, h147]
      rw [if_neg (by simp), if_pos (show obB none = -1 from rfl), show (2 : Int32) = nI 2 from rfl, a1, Option.bind_some]
      simp only [acM a3.1.1, Option.bind_some, a3.2.1]
      rfl
    | some p =>
      rw [e2] at h147
      have hp := bea_lt e2
      refine Or.inr ⟨p, rfl, hp, ?_⟩
      unfold f172 f172_12 f172_34 f172_47
      simp only [acM hR.1, acGr hR, acT0 hR.2.1, Option.bind_some, m170 h, e1, bo_0, h147, h9]
      rw [if_neg (by simp), if_neg (show ¬ obB (some p) = -1 from obB_p (by omega)), if_neg (mk_5 _)]
      rfl
end REF
