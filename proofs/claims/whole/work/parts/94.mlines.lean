/-! THE TEXT: the reference's lines: cells of a draft -/
section CELLS
variable {σ : xM} {C : Cty} {c : Nat} {hh : Int32}
theorem mX_head {τ : xM} (h : mCx σ c C hh) (hc : 115 ≤ c) {x g : Nat} (hot : ∀ a k, c ≤ a → a ≤ c + 9 → ¬ (a = c ∧ k ≤ 1) → mI τ a k = mI σ a k) (n0 : mI τ c 0 = nI x) (n1 : mI τ c 1 = nI g) : mCx τ c (sHead C x g) (nI x) := by
  obtain ⟨⟨a1, a2, a3, a4, a5, a6, a7⟩, c2, c3, c4, c5⟩ := h
  refine ⟨⟨?_, ?_, ?_, ?_, ?_, ?_, ?_⟩, fun i hi => ?_, fun i hi => ?_, fun i hi j hj => ?_, fun i hi => ?_⟩
  · exact n0
  · exact n1
  · rw [hot _ _ (by omega) (by omega) (by omega)]; exact a3
  · rw [hot _ _ (by omega) (by omega) (by omega)]; exact a4
  · rw [hot _ _ (by omega) (by omega) (by omega)]; exact a5
  · rw [hot _ _ (by omega) (by omega) (by omega)]; exact a6
  · rw [hot _ _ (by omega) (by omega) (by omega)]; exact a7
  · rw [hot _ _ (by omega) (by omega) (by omega), hot _ _ (by omega) (by omega) (by omega), hot _ _ (by omega) (by omega) (by omega)]; exact c2 i hi
  · rw [hot _ _ (by omega) (by omega) (by omega), hot _ _ (by omega) (by omega) (by omega)]; exact c3 i hi
  · rw [hot _ _ (by omega) (by omega) (by omega)]; exact c4 i hi j hj
  · rw [hot _ _ (by omega) (by omega) (by omega), hot _ _ (by omega) (by omega) (by omega), hot _ _ (by omega) (by omega) (by omega)]; exact c5 i hi
theorem mX_per {τ : xM} (h : mCx σ c C hh) (hc : 115 ≤ c) {y x d : Nat} (hot : ∀ a k, c ≤ a → a ≤ c + 9 → ¬ ((a = c ∧ k = 2) ∨ (c + 1 ≤ a ∧ a ≤ c + 3 ∧ k = pe C)) → mI τ a k = mI σ a k) (n2 : mI τ c 2 = nI (pe C + 1)) (n3 : mI τ (c + 1) (pe C) = nI y) (n4 : mI τ (c + 2) (pe C) = nI x) (n5 : mI τ (c + 3) (pe C) = nI d) : mCx τ c (sPer C y x d) hh := by
  obtain ⟨⟨a1, a2, a3, a4, a5, a6, a7⟩, c2, c3, c4, c5⟩ := h
  refine ⟨⟨?_, ?_, ?_, ?_, ?_, ?_, ?_⟩, fun i hi => ?_, fun i hi => ?_, fun i hi j hj => ?_, fun i hi => ?_⟩
  · rw [hot _ _ (by omega) (by omega) (by omega)]; exact a1
  · rw [hot _ _ (by omega) (by omega) (by omega)]; exact a2
  · exact n2
  · rw [hot _ _ (by omega) (by omega) (by omega)]; exact a4
  · rw [hot _ _ (by omega) (by omega) (by omega)]; exact a5
  · rw [hot _ _ (by omega) (by omega) (by omega)]; exact a6
  · rw [hot _ _ (by omega) (by omega) (by omega)]; exact a7
  · have hi : i < pe C + 1 := hi
    show mI τ (c + 1) i = nI (upN (kd C) (pe C) y i) ∧ mI τ (c + 2) i = nI (upN (h0 C) (pe C) x i) ∧ mI τ (c + 3) i = nI (upN (dz C) (pe C) d i)
    unfold upN
    by_cases e : i = pe C
    · rw [if_pos e, if_pos e, if_pos e, e]; exact ⟨n3, n4, n5⟩
    · rw [if_neg e, if_neg e, if_neg e, hot _ _ (by omega) (by omega) (by omega), hot _ _ (by omega) (by omega) (by omega), hot _ _ (by omega) (by omega) (by omega)]; exact c2 i (by omega)
  · rw [hot _ _ (by omega) (by omega) (by omega), hot _ _ (by omega) (by omega) (by omega)]; exact c3 i hi
  · rw [hot _ _ (by omega) (by omega) (by omega)]; exact c4 i hi j hj
  · rw [hot _ _ (by omega) (by omega) (by omega), hot _ _ (by omega) (by omega) (by omega), hot _ _ (by omega) (by omega) (by omega)]; exact c5 i hi
theorem mX_near {τ : xM} (h : mCx σ c C hh) (hc : 115 ≤ c) {p q : Nat} (hpq : p ≠ q) (hot : ∀ a k, c ≤ a → a ≤ c + 9 → ¬ ((a = c ∧ k = 3) ∨ (a = c + 4 ∧ (k = p ∨ k = q))) → mI τ a k = mI σ a k) (n3 : mI τ c 3 = nI (nNe C + 1)) (np : mI τ (c + 4) p = nI (nr C p ||| 2 ^ q)) (nq : mI τ (c + 4) q = nI (nr C q ||| 2 ^ p)) : mCx τ c (sNear C p q) hh := by
  obtain ⟨⟨a1, a2, a3, a4, a5, a6, a7⟩, c2, c3, c4, c5⟩ := h
  refine ⟨⟨?_, ?_, ?_, ?_, ?_, ?_, ?_⟩, fun i hi => ?_, fun i hi => ?_, fun i hi j hj => ?_, fun i hi => ?_⟩
  · rw [hot _ _ (by omega) (by omega) (by omega)]; exact a1
  · rw [hot _ _ (by omega) (by omega) (by omega)]; exact a2
  · rw [hot _ _ (by omega) (by omega) (by omega)]; exact a3
  · exact n3
  · rw [hot _ _ (by omega) (by omega) (by omega)]; exact a5
  · rw [hot _ _ (by omega) (by omega) (by omega)]; exact a6
  · rw [hot _ _ (by omega) (by omega) (by omega)]; exact a7
  · rw [hot _ _ (by omega) (by omega) (by omega), hot _ _ (by omega) (by omega) (by omega), hot _ _ (by omega) (by omega) (by omega)]; exact c2 i hi
  · refine ⟨?_, by rw [hot _ _ (by omega) (by omega) (by omega)]; exact (c3 i hi).2⟩
    show mI τ (c + 4) i = nI (upN (upN (nr C) p (nr C p ||| 2 ^ q)) q (nr C q ||| 2 ^ p) i)
    unfold upN
    by_cases e1 : i = q
    · rw [if_pos e1, e1]; exact nq
    · rw [if_neg e1]
      by_cases e2 : i = p
      · rw [if_pos e2, e2]; exact np
      · rw [if_neg e2, hot _ _ (by omega) (by omega) (by omega)]; exact (c3 i hi).1
  · rw [hot _ _ (by omega) (by omega) (by omega)]; exact c4 i hi j hj
  · rw [hot _ _ (by omega) (by omega) (by omega), hot _ _ (by omega) (by omega) (by omega), hot _ _ (by omega) (by omega) (by omega)]; exact c5 i hi
theorem mX_ask {τ : xM} (h : mCx σ c C hh) (hc : 115 ≤ c) {p q x : Nat} (hp : p < 6) (hq : q < 6) (hot : ∀ a k, c ≤ a → a ≤ c + 9 → ¬ ((a = c ∧ k = 4) ∨ (a = c + 6 ∧ k = 6 * p + q)) → mI τ a k = mI σ a k) (n4 : mI τ c 4 = nI (nAs C + 1)) (n8 : mI τ (c + 6) (6 * p + q) = nI x) : mCx τ c (sAsk C p q x) hh := by
  obtain ⟨⟨a1, a2, a3, a4, a5, a6, a7⟩, c2, c3, c4, c5⟩ := h
  have hr : ∀ a b, r0 (sAsk C p q x) a b = if a = p ∧ b = q then some x else r0 C a b := fun a b => rg2
  refine ⟨⟨?_, ?_, ?_, ?_, ?_, ?_, ?_⟩, fun i hi => ?_, fun i hi => ?_, fun i hi j hj => ?_, fun i hi => ?_⟩
  · rw [hot _ _ (by omega) (by omega) (by omega)]; exact a1
  · rw [hot _ _ (by omega) (by omega) (by omega)]; exact a2
  · rw [hot _ _ (by omega) (by omega) (by omega)]; exact a3
  · rw [hot _ _ (by omega) (by omega) (by omega)]; exact a4
  · exact n4
  · rw [hot _ _ (by omega) (by omega) (by omega)]; exact a6
  · rw [hot _ _ (by omega) (by omega) (by omega)]; exact a7
  · rw [hot _ _ (by omega) (by omega) (by omega), hot _ _ (by omega) (by omega) (by omega), hot _ _ (by omega) (by omega) (by omega)]; exact c2 i hi
  · rw [hot _ _ (by omega) (by omega) (by omega), hot _ _ (by omega) (by omega) (by omega)]; exact c3 i hi
  · rw [hr]
    by_cases e : i = p ∧ j = q
    · rw [if_pos e, e.1, e.2]; exact n8
    · rw [if_neg e, hot _ _ (by omega) (by omega) (by omega)]; exact c4 i hi j hj
  · rw [hot _ _ (by omega) (by omega) (by omega), hot _ _ (by omega) (by omega) (by omega), hot _ _ (by omega) (by omega) (by omega)]; exact c5 i hi
theorem mX_hea {τ : xM} (h : mCx σ c C hh) (hc : 115 ≤ c) {p q x g : Nat} (hp : p < 6) (hq : q < 6) (hot : ∀ a k, c ≤ a → a ≤ c + 9 → ¬ ((a = c ∧ k = 5) ∨ (a = c + 6 ∧ k = 6 * p + q) ∨ (c + 7 ≤ a ∧ k = nHe C)) → mI τ a k = mI σ a k) (n5 : mI τ c 5 = nI (nHe C + 1)) (n8 : mI τ (c + 6) (6 * p + q) = nI x) (n10 : mI τ (c + 7) (nHe C) = nI p) (n11 : mI τ (c + 8) (nHe C) = nI q) (n12 : mI τ (c + 9) (nHe C) = nI g) : mCx τ c (sHea C p q x g) hh := by
  obtain ⟨⟨a1, a2, a3, a4, a5, a6, a7⟩, c2, c3, c4, c5⟩ := h
  have hr : ∀ a b, r0 (sHea C p q x g) a b = if a = p ∧ b = q then some x else r0 C a b := fun a b => rg2
  refine ⟨⟨?_, ?_, ?_, ?_, ?_, ?_, ?_⟩, fun i hi => ?_, fun i hi => ?_, fun i hi j hj => ?_, fun i hi => ?_⟩
  · rw [hot _ _ (by omega) (by omega) (by omega)]; exact a1
  · rw [hot _ _ (by omega) (by omega) (by omega)]; exact a2
  · rw [hot _ _ (by omega) (by omega) (by omega)]; exact a3
  · rw [hot _ _ (by omega) (by omega) (by omega)]; exact a4
  · rw [hot _ _ (by omega) (by omega) (by omega)]; exact a5
  · exact n5
  · rw [hot _ _ (by omega) (by omega) (by omega)]; exact a7
  · rw [hot _ _ (by omega) (by omega) (by omega), hot _ _ (by omega) (by omega) (by omega), hot _ _ (by omega) (by omega) (by omega)]; exact c2 i hi
  · rw [hot _ _ (by omega) (by omega) (by omega), hot _ _ (by omega) (by omega) (by omega)]; exact c3 i hi
  · rw [hr]
    by_cases e : i = p ∧ j = q
    · rw [if_pos e, e.1, e.2]; exact n8
    · rw [if_neg e, hot _ _ (by omega) (by omega) (by omega)]; exact c4 i hi j hj
  · have hi : i < nHe C + 1 := hi
    have eb : hb (sHea C p q x g) i = if i = nHe C then p else hb C i := rfl
    have eo : ho (sHea C p q x g) i = if i = nHe C then q else ho C i := rfl
    have eg : hg (sHea C p q x g) i = if i = nHe C then g else hg C i := rfl
    rw [eb, eo, eg]
    by_cases e : i = nHe C
    · rw [if_pos e, if_pos e, if_pos e, e]
      exact ⟨n10, n11, n12⟩
    · rw [if_neg e, if_neg e, if_neg e, hot _ _ (by omega) (by omega) (by omega), hot _ _ (by omega) (by omega) (by omega), hot _ _ (by omega) (by omega) (by omega)]
      exact c5 i (by omega)
theorem mX_wen {τ : xM} (h : mCx σ c C hh) (hc : 115 ≤ c) {p : Nat} {w : Option Nat} (hot : ∀ a k, c ≤ a → a ≤ c + 9 → ¬ ((a = c ∧ k = 6) ∨ (a = c + 5 ∧ k = p)) → mI τ a k = mI σ a k) (n6 : mI τ c 6 = nI (nWe C + 1)) (n7 : mI τ (c + 5) p = ob w) : mCx τ c (sWen C p w) hh := by
  obtain ⟨⟨a1, a2, a3, a4, a5, a6, a7⟩, c2, c3, c4, c5⟩ := h
  refine ⟨⟨?_, ?_, ?_, ?_, ?_, ?_, ?_⟩, fun i hi => ?_, fun i hi => ?_, fun i hi j hj => ?_, fun i hi => ?_⟩
  · rw [hot _ _ (by omega) (by omega) (by omega)]; exact a1
  · rw [hot _ _ (by omega) (by omega) (by omega)]; exact a2
  · rw [hot _ _ (by omega) (by omega) (by omega)]; exact a3
  · rw [hot _ _ (by omega) (by omega) (by omega)]; exact a4
  · rw [hot _ _ (by omega) (by omega) (by omega)]; exact a5
  · rw [hot _ _ (by omega) (by omega) (by omega)]; exact a6
  · exact n6
  · rw [hot _ _ (by omega) (by omega) (by omega), hot _ _ (by omega) (by omega) (by omega), hot _ _ (by omega) (by omega) (by omega)]; exact c2 i hi
  · refine ⟨by rw [hot _ _ (by omega) (by omega) (by omega)]; exact (c3 i hi).1, ?_⟩
    show mI τ (c + 5) i = wM (upN (wn C) p (some w) i)
    unfold upN
    by_cases e1 : i = p
    · rw [if_pos e1, e1, n7]
      cases w <;> rfl
    · rw [if_neg e1, hot _ _ (by omega) (by omega) (by omega)]; exact (c3 i hi).2
  · rw [hot _ _ (by omega) (by omega) (by omega)]; exact c4 i hi j hj
  · rw [hot _ _ (by omega) (by omega) (by omega), hot _ _ (by omega) (by omega) (by omega), hot _ _ (by omega) (by omega) (by omega)]; exact c5 i hi
end CELLS
section REF
variable {σ : xM} {c : Nat} {f : Nat → Int32} {N e : Nat} {D : Drf} {x : Nat × Nat}
/-- readPart -/
theorem mpt (h : mRd σ c f N e D) (hp6 : pe (dC D) ≤ 6) {w : List Nat} {i m : Nat} (hw : okW w) (hx : xpk (UInt32.ofNat i) = some (lN (wdM w))) (hm : m < 2 ^ 31) : (∃ x τ, pt f N w m e = .inl x ∧ f169 102 (UInt32.ofNat i) 0 (nI m) σ = some (0, τ) ∧ Upd Pfl σ τ ∧ mOv τ c x) ∨ (∃ y τ, pt f N w m e = .inr y ∧ f169 102 (UInt32.ofNat i) 0 (nI m) σ = some (nI y.2, τ) ∧ Upd Pfl σ τ ∧ mRd τ c f N y.1 D ∧ y.2 ≤ m) := by
  have hR := h.1
  unfold pt
  have h167 := m167 h hw hx
  cases e1 : isW f N w e
  · rw [if_neg (by simp)]
    obtain ⟨a1, a2, a3⟩ := m166 h hp6 1
    refine Or.inl ⟨_, _, rfl, ?_, a2, a3⟩
    unfold f169 f169_13 f169_50 f169_66
    simp only [acM hR.1, Option.bind_some, h167, e1, bo_0, if_true, show (1 : Int32) = nI 1 from rfl, a1, acM a3.1.1, o165 a3, a3.2.1, o166 a3]
    rfl
  · rw [if_pos rfl]
    obtain ⟨τ, t1, t2, t3⟩ := m165 h
    have hRt := t3.1
    have h9 := t3.2.2.2.1.2.2.1
    by_cases k2 : tkK f N (tkE f N e) = 2
    · have hv := tkV_ok t3.2.2.1 k2
      have h11 := t3.2.2.2.1.2.2.2.2 k2
      have hin : (!decide (nI (tkV f N (tkE f N e)) < 0 ∨ nI m < nI (tkV f N (tkE f N e)))) = decide (tkV f N (tkE f N e) ≤ m) := by
        have h0 : ¬ nI (tkV f N (tkE f N e)) < 0 := nI_pos (by omega)
        have h1 : (nI m < nI (tkV f N (tkE f N e))) = (m < tkV f N (tkE f N e)) := propext (nI_ltI hm (by omega))
        simp only [h0, h1, false_or]
        by_cases e2 : tkV f N (tkE f N e) ≤ m
        · rw [decide_eq_true e2, decide_eq_false (by omega)]; rfl
        · rw [decide_eq_false e2, decide_eq_true (by omega)]; rfl
      rw [if_pos k2]
      by_cases e2 : tkV f N (tkE f N e) ≤ m
      · rw [if_pos e2]
        obtain ⟨υ, v1, v2, v3⟩ := m165 t3
        refine Or.inr ⟨_, υ, rfl, ?_, t2.trans v2, v3, e2⟩
        unfold f169 f169_13 f169_50 f169_66
        simp only [acM hR.1, Option.bind_some, h167, e1, bo_0, t1, acM hRt.1, h9, mk_3, k2, if_true, h11, f156N, hin, decide_eq_true e2]
        rw [if_neg (show ¬ true = false by simp)]
        simp only [v1, Option.bind_some]
        first | rfl | (rw [if_neg (show ¬ nI (mk 2) = 5 by decide)]) | (rw [if_neg (show ¬ true = false by simp), if_neg (show ¬ nI (mk 2) = 5 by decide)])
      · rw [if_neg e2]
        obtain ⟨a1, a2, a3⟩ := m166 t3 hp6 4
        refine Or.inl ⟨_, _, rfl, ?_, t2.trans a2, a3⟩
        unfold f169 f169_13 f169_50 f169_66
        simp only [acM hR.1, Option.bind_some, h167, e1, bo_0, t1, acM hRt.1, h9, mk_3, k2, if_true, h11, f156N, hin, decide_eq_false e2, show (4 : Int32) = nI 4 from rfl, a1, acM a3.1.1, a3.2.1, o165 a3]
        rfl
    · rw [if_neg k2]
      obtain ⟨a1, a2, a3⟩ := m166 t3 hp6 1
      refine Or.inl ⟨_, _, rfl, ?_, t2.trans a2, a3⟩
      unfold f169 f169_13 f169_50 f169_66
      simp only [acM hR.1, Option.bind_some, h167, e1, bo_0, t1, acM hRt.1, h9, mk_3]
      rw [if_neg (by simp), if_neg k2, show (1 : Int32) = nI 1 from rfl, a1, Option.bind_some]
      simp only [acM a3.1.1, Option.bind_some, a3.2.1, o165 a3]
      rfl
/-- lineBegins -/
theorem m171 (h : mRd σ c f N e D) (hO : OkD D) {a b : Nat} (ha : a ≤ b) (hb31 : b < 100) (hz : dB D = false → a ≠ b) : (∃ x τ, (if dB D then (if a < b then none else some (5, tkS f N e)) else some (6, tkS f N e)) = some x ∧ f171 102 (nI a) (nI b) σ = some τ ∧ Upd Pfl σ τ ∧ mOv τ c x) ∨ (dB D = true ∧ a < b ∧ ∃ τ, f171 102 (nI a) (nI b) σ = some τ ∧ Upd Pfl σ τ ∧ mRd τ c f N (tkE f N e) D) := by
  have hR := h.1
  have hp6 := hO.1.1
  have h99 := hO.1.2.2.2.2.2.2.2.2.2.1
  have h0 : mI σ c 0 = dh D := h.2.2.2.2.2.1.1.1
  unfold f171 f171_10 f171_27
  simp only [show (nI a = nI b) = (a = b) from propext (nI_eq (by omega) (by omega))]
  cases hb : dB D
  · have hdh : dh D = -1 := by unfold dh; rw [hb]; rfl
    obtain ⟨a1, a2, a3⟩ := m166 h hp6 6
    refine Or.inl ⟨_, _, rfl, ?_, a2, a3⟩
    rw [if_neg (hz hb)]
    simp only [acM hR.1, acGr hR, acT0 hR.2.1, Option.bind_some, h0, hdh, if_true, show (6 : Int32) = nI 6 from rfl, a1, acM a3.1.1, o165 a3]
  · have hdh : ¬ dh D = -1 := by
      unfold dh
      rw [hb, if_pos rfl]
      exact obB_p (by omega)
    by_cases e1 : a < b
    · obtain ⟨τ, t1, t2, t3⟩ := m165 h
      refine Or.inr ⟨rfl, e1, τ, ?_, t2, t3⟩
      rw [if_neg (by omega)]
      simp only [acM hR.1, acGr hR, acT0 hR.2.1, Option.bind_some, h0, t1]
      rw [if_neg hdh]
    · obtain ⟨a1, a2, a3⟩ := m166 h hp6 5
      refine Or.inl ⟨(5, tkS f N e), _, by rw [if_pos rfl, if_neg e1], ?_, a2, a3⟩
      have e2 : a = b := by omega
      rw [if_pos e2]
      simp only [acM hR.1, Option.bind_some, show (5 : Int32) = nI 5 from rfl, a1, acM a3.1.1, acGr a3.1, acT0 a3.1.2.1, o166 a3, o165 a3]
      split <;> rfl
end REF
