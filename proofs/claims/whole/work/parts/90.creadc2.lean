/-! THE TEXT: the class's readCity, all lines -/
section PURE
variable {f : Nat → Int32} {N e : Nat} {D : Drf}
def flk (x : Nat × Nat) : Prop := 1 ≤ x.1 ∧ x.1 ≤ 7
theorem flk_mk {k pl : Nat} (h1 : 1 ≤ k) (h2 : k ≤ 7) : flk (k, pl) := ⟨h1, h2⟩
theorem pt_fl {w : List Nat} {m : Nat} {x : Nat × Nat} (h : pt f N w m e = .inl x) : flk x := by
  unfold pt at h
  repeat' split at h
  all_goals first | (cases h <;> exact flk_mk (by decide) (by decide)) | skip
theorem pAt_fl {x : Nat × Nat} (h : pAt f N D e = .inl x) : flk x := by
  unfold pAt at h
  split at h
  · cases e2 : bea D (tkW f N e) with
    | none => rw [e2] at h; cases h <;> exact flk_mk (by decide) (by decide)
    | some q => rw [e2] at h; cases h
  · cases h <;> exact flk_mk (by decide) (by decide)
theorem lPair_fl {x : Nat × Nat} (h : lPair f N D e = .inl x) : flk x := by
  unfold lPair at h
  cases e1 : pAt f N D e with
  | inl y => rw [e1] at h; cases h; exact pAt_fl e1
  | inr p =>
    rw [e1] at h
    simp only at h
    split at h
    · cases h <;> exact flk_mk (by decide) (by decide)
    · cases e2 : pAt f N D (tkE f N e) with
      | inl y => rw [e2] at h; cases h; exact pAt_fl e2
      | inr q =>
        rw [e2] at h
        simp only at h
        repeat' split at h
        all_goals first | (cases h <;> exact flk_mk (by decide) (by decide)) | cases h
theorem lHead_fl {x : Nat × Nat} (h : lHead f N D e = .inl x) : flk x := by
  unfold lHead at h
  cases e1 : pt f N kHour 99 e with
  | inl y => rw [e1] at h; cases h; exact pt_fl e1
  | inr y =>
    rw [e1] at h
    simp only at h
    cases e2 : pt f N kGives 9 y.1 with
    | inl z => rw [e2] at h; cases h; exact pt_fl e2
    | inr z => rw [e2] at h; cases h
theorem lPer_fl {x : Nat × Nat} (h : lPer f N D e = .inl x) : flk x := by
  unfold lPer at h
  split at h
  · cases e1 : bea D (tkW f N e) with
    | some q => rw [e1] at h; cases h <;> exact flk_mk (by decide) (by decide)
    | none =>
      rw [e1] at h
      simp only at h
      cases e2 : kdAt f N (tkE f N e) with
      | none => rw [e2] at h; cases h <;> exact flk_mk (by decide) (by decide)
      | some k =>
        rw [e2] at h
        simp only at h
        cases e3 : pt f N kHas 99 (tkE f N (tkE f N e)) with
        | inl z => rw [e3] at h; cases h; exact pt_fl e3
        | inr z =>
          rw [e3] at h
          simp only at h
          cases e4 : pt f N kDies 100 z.1 with
          | inl u => rw [e4] at h; cases h; exact pt_fl e4
          | inr u => rw [e4] at h; cases h
  · cases h <;> exact flk_mk (by decide) (by decide)
theorem lNear_fl {x : Nat × Nat} (h : lNear f N D e = .inl x) : flk x := by
  unfold lNear at h
  cases e1 : pAt f N D e with
  | inl y => rw [e1] at h; cases h; exact pAt_fl e1
  | inr p =>
    rw [e1] at h
    simp only at h
    cases e2 : pAt f N D (tkE f N e) with
    | inl y => rw [e2] at h; cases h; exact pAt_fl e2
    | inr q =>
      rw [e2] at h
      simp only at h
      split at h
      · cases h <;> exact flk_mk (by decide) (by decide)
      · cases h
theorem lAsk_fl {x : Nat × Nat} (h : lAsk f N D e = .inl x) : flk x := by
  unfold lAsk at h
  cases e1 : lPair f N D e with
  | inl y => rw [e1] at h; cases h; exact lPair_fl e1
  | inr y =>
    rw [e1] at h
    simp only at h
    cases e2 : pt f N kAt (hr0 (dC D)) y.1 with
    | inl z => rw [e2] at h; cases h; exact pt_fl e2
    | inr z => rw [e2] at h; cases h
theorem lHea_fl {x : Nat × Nat} (h : lHea f N D e = .inl x) : flk x := by
  unfold lHea at h
  cases e1 : lPair f N D e with
  | inl y => rw [e1] at h; cases h; exact lPair_fl e1
  | inr y =>
    rw [e1] at h
    simp only at h
    cases e2 : pt f N kAt (hr0 (dC D)) y.1 with
    | inl z => rw [e2] at h; cases h; exact pt_fl e2
    | inr z =>
      rw [e2] at h
      simp only at h
      cases e3 : pt f N kGive 3 z.1 with
      | inl u => rw [e3] at h; cases h; exact pt_fl e3
      | inr u => rw [e3] at h; cases h
theorem lWen_fl {x : Nat × Nat} (h : lWen f N D e = .inl x) : flk x := by
  unfold lWen at h
  cases e1 : pAt f N D e with
  | inl y => rw [e1] at h; cases h; exact pAt_fl e1
  | inr p =>
    rw [e1] at h
    simp only at h
    split at h
    · cases h <;> exact flk_mk (by decide) (by decide)
    · split at h
      · cases h
      · cases e2 : pAt f N D (tkE f N e) with
        | inl y => rw [e2] at h; cases h; exact pAt_fl e2
        | inr q =>
          rw [e2] at h
          simp only at h
          split at h
          · cases h <;> exact flk_mk (by decide) (by decide)
          · cases h
theorem lLine_fl {x : Nat × Nat} (h : lLine f N D e = .inl x) : flk x := by
  unfold lLine at h
  repeat' split at h
  all_goals first | exact lHead_fl h | exact lPer_fl h | exact lNear_fl h | exact lAsk_fl h | exact lHea_fl h | exact lWen_fl h | (cases h <;> exact flk_mk (by decide) (by decide))
theorem rAll_ok : ∀ (k : Nat) (D : Drf) (e : Nat), OkD D → e ≤ N → N + 1 ≤ e + k → (∀ x, rAll f N k D e = .inl x → flk x) ∧ ∀ D', rAll f N k D e = .inr D' → OkD D' ∧ 0 < pe (dC D') := by
  intro k
  induction k with
  | zero => intro D e _ he hk; omega
  | succ k ih =>
    intro D e hO he hk
    rw [rAll]
    cases e1 : lLine f N D e with
    | inl y =>
      refine ⟨fun x hx => ?_, fun D' hD => by cases hD⟩
      cases hx
      exact lLine_fl e1
    | inr y =>
      obtain ⟨a, b, c⟩ := lLine_ok hO he e1
      have b1 := tkE_b (f := f) b
      simp only
      split
      · exact ih y.2 (tkE f N y.1) c b1.2 (by omega)
      · split
        · split
          · exact ⟨fun x hx => by cases hx; exact flk_mk (by decide) (by decide), fun D' hD => by cases hD⟩
          · refine ⟨fun x hx => (by cases hx), fun D' hD => ?_⟩
            cases hD
            exact ⟨c, by omega⟩
        · exact ⟨fun x hx => by cases hx; exact flk_mk (by decide) (by decide), fun D' hD => by cases hD⟩
end PURE
section CLASS
variable {σ : xM} {f : Nat → Int32} {N e : Nat} {D : Drf} {C : Cty}
theorem rd_9 {τ : xM} (h : Upd P9 σ τ) : Upd Prd σ τ := h.mono (fun a k hq => by
  unfold Prd at hq
  simp only [Bool.or_eq_false_iff] at hq
  unfold P9
  refine beqF (fun ea => ?_)
  rw [ea] at hq
  exact absurd hq.2.1 (by decide))
theorem cC_9 {τ : xM} (hu : Upd P9 σ τ) (h : cC σ 2 C) : cC τ 2 C := by
  obtain ⟨⟨a1, a2, a3, a4, a5, a6, a7⟩, c2, c3, c4, c5⟩ := h
  have ht : ∀ a k, a ≠ 9 → mI τ a k = mI σ a k := fun a k ha => hu.2.1 a k (beqF ha)
  refine ⟨⟨?_, ?_, ?_, ?_, ?_, ?_, ?_⟩, fun p hp => ?_, fun p hp => ?_, fun p hp q hq => ?_, fun k hk => ?_⟩
  · rw [ht _ _ (by omega)]; exact a1
  · rw [ht _ _ (by omega)]; exact a2
  · rw [ht _ _ (by omega)]; exact a3
  · rw [ht _ _ (by omega)]; exact a4
  · rw [ht _ _ (by omega)]; exact a5
  · rw [ht _ _ (by omega)]; exact a6
  · rw [ht _ _ (by omega)]; exact a7
  · rw [ht _ _ (by omega), ht _ _ (by omega), ht _ _ (by omega)]; exact c2 p hp
  · rw [ht _ _ (by omega), ht _ _ (by omega)]; exact c3 p hp
  · rw [ht _ _ (by omega)]; exact c4 p hp q hq
  · rw [ht _ _ (by omega), ht _ _ (by omega), ht _ _ (by omega)]; exact c5 k hk
/-- behind a fault -/
theorem f24_130F (hS : Sh σ) {x : Nat × Nat} (hf : cFl σ x) : ∃ τ, f24_130 1 σ = some (nI x.1, τ) ∧ Upd Prd σ τ ∧ cFl τ x := by
  obtain ⟨τ, t1, t2, -⟩ := f5N (C := C0) hS (mI σ 6) (fun _ _ => rfl)
  have hS' := t2.sh hS
  refine ⟨τ, ?_, rd_9 t2, (t2.2.1 1 3 rfl).trans hf.1, (t2.2.1 1 1 rfl).trans hf.2⟩
  unfold f24_130
  simp only [acR hS, Option.bind_some, t1, acR hS', (t2.2.1 1 3 rfl).trans hf.1]
theorem f24_86F (hS : Sh σ) {x : Nat × Nat} (hf : cFl σ x) (hx : flk x) : f24_86 1 σ = f24_130 1 σ := by
  have h3 : ¬ nI x.1 = 0 := nI_ne0 (by have := hx.1; omega) (by have := hx.2; omega)
  unfold f24_86 f24_106
  simp only [acR hS, Option.bind_some, hf.1]
  rw [if_neg h3, if_neg h3]
/-- what readCity leaves -/
def cRc (σ : xM) (o : Option (Int32 × xM)) (r : Sum (Nat × Nat) Drf) : Prop := match r with
  | .inl x => ∃ τ, o = some (nI x.1, τ) ∧ Upd Prd σ τ ∧ cFl τ x
  | .inr D => ∃ τ, o = some (0, τ) ∧ Upd Prd σ τ ∧ cC τ 2 (dC D) ∧ ∀ i, i < 36 → mI τ 9 i = nI (wyF (dC D) i)
theorem f24_48N : ∀ (k m i : Nat) (D : Drf) (e : Nat) (σ : xM), cRd σ f N e D → OkD D → N + 1 ≤ e + k → 2 * i ≤ e → k + 2 ≤ m → cRc σ (f24_48 m 1 1 (nI i) σ) (rAll f N k D e) := by
  intro k
  induction k with
  | zero => intro m i D e σ h _ hk; have := h.2.1; omega
  | succ k ih =>
    intro m i D e σ h hO hk hi hm
    obtain ⟨m, rfl⟩ : ∃ j, m = j + 2 := ⟨m - 2, by omega⟩
    have he := h.2.1
    have hN := h.1.2.1
    have hS := h.1.1
    have h36 := c36 h hO
    have hstop : ∀ τ, f24_48 (m + 1) 1 0 (nI i + 1) τ = f24_86 1 τ := fun τ => by
      rw [f24_48, nI_1]
      split
      · rfl
      · rw [if_pos rfl]
    rw [f24_48, if_neg (show ¬ (900 : Int32) ≤ nI i from nI_ge (b := 900) (by omega) (by omega)), if_neg (by decide)]
    unfold f24_78 f24_79
    simp only [hstop]
    rw [rAll]
    simp only [acR hS, Option.bind_some]
    cases e1 : lLine f N D e with
    | inl x =>
      rw [e1] at h36
      obtain ⟨τ, t1, t2, t3⟩ := h36
      have hx := lLine_fl e1
      have hSt := t2.sh hS
      obtain ⟨υ, v1, v2, v3⟩ := f24_130F hSt t3
      rw [t1, Option.bind_some, if_pos (show (bo false, τ).1 = 0 from rfl), show (bo false, τ).2 = τ from rfl, f24_86F hSt t3 hx, v1]
      exact ⟨υ, rfl, t2.trans v2, v3⟩
    | inr y =>
      rw [e1] at h36
      obtain ⟨τ, t1, t2, t3⟩ := h36
      obtain ⟨a, b, c⟩ := lLine_ok hO he e1
      have b1 := tkE_b (f := f) b
      have hSt := t2.sh hS
      obtain ⟨υ, v1, v2, v3, v4⟩ := c26 t3
      have hSv := v2.sh hSt
      have uv := t2.trans (rd_sp v2)
      have hk4 := tkK_4 (f := f) (N := N) (e := y.1)
      rw [t1, Option.bind_some, if_neg (show ¬ bo true = 0 by decide)]
      simp only [acR hSt, Option.bind_some, v1, show (nI (tkK f N y.1) = 3) = (tkK f N y.1 = 3) from propext (nI_eq (a := tkK f N y.1) (b := 3) (by omega) (by omega)), nI_1]
      by_cases e3 : tkK f N y.1 = 3
      · rw [if_pos e3, if_pos e3]
        have hlt := (tk_b (f := f) b).2.2.2.2 (by omega) (by omega)
        have hst := (tk_b (f := f) b).1
        have := ih (m + 1) (i + 1) y.2 (tkE f N y.1) υ v3 c (by omega) (by omega) (by omega)
        cases er : rAll f N k y.2 (tkE f N y.1) with
        | inl x => rw [er] at this; obtain ⟨ψ, p1, p2, p3⟩ := this; exact ⟨ψ, p1, uv.trans p2, p3⟩
        | inr D' => rw [er] at this; obtain ⟨ψ, p1, p2, p3⟩ := this; exact ⟨ψ, p1, uv.trans p2, p3⟩
      · rw [if_neg e3, if_neg e3]
        have h6s : mI υ 1 6 = nI (tkK f N y.1) := v4.2.2.1
        have h0 : mI υ 1 3 = 0 := v3.2.2.2.1
        unfold f24_86
        simp only [acR hSv, Option.bind_some, h0, h6s, show (nI (tkK f N y.1) = 0) = (tkK f N y.1 = 0) from propext (nI_eq (a := tkK f N y.1) (b := 0) (by omega) (by omega)), if_true]
        have hfl : ∀ kk, flk (kk, tkS f N y.1) → ∃ ψ, f24_130 1 (spo υ (nI kk) (tkS f N y.1)) = some (nI kk, ψ) ∧ Upd Prd σ ψ ∧ cFl ψ (kk, tkS f N y.1) := fun kk _ => by
          obtain ⟨s1, s2⟩ := spo_ok (σ := υ) kk (tkS f N y.1)
          obtain ⟨ψ, p1, p2, p3⟩ := f24_130F (s1.sh hSv) s2
          exact ⟨ψ, p1, uv.trans (s1.trans p2), p3⟩
        by_cases e0 : tkK f N y.1 = 0
        · rw [if_pos e0, if_pos e0]
          unfold f24_106
          have h22 : mI υ 2 2 = nI (pe (dC y.2)) := v3.2.2.2.2.2.1.1.2.2.1
          have hp6 := c.1.1
          simp only [acR hSv, Option.bind_some, h0, h22, show (nI (pe (dC y.2)) = 0) = (pe (dC y.2) = 0) from propext (nI_eq (a := pe (dC y.2)) (b := 0) (by omega) (by omega)), if_true]
          by_cases ep : pe (dC y.2) = 0
          · rw [if_pos ep, if_pos ep, show (6 : Int32) = nI 6 from rfl, f25N hSv v4.1, Option.bind_some]
            obtain ⟨ψ, p1, p2, p3⟩ := hfl 6 (flk_mk (by decide) (by decide))
            exact ⟨ψ, p1, p2, p3⟩
          · rw [if_neg ep, if_neg ep]
            obtain ⟨ψ, p1, p2, p3⟩ := f5N (C := dC y.2) hSv (fun p => nI (nr (dC y.2) p)) (fun p hp => (v3.2.2.2.2.2.1.2.2.1 p hp).1)
            have hSp := p2.sh hSv
            refine ⟨ψ, ?_, uv.trans (rd_9 p2), cC_9 p2 v3.2.2.2.2.2.1, p3 (fun p hp => ⟨rfl, c.1.nr64 hp⟩)⟩
            unfold f24_130
            simp only [acR hSv, Option.bind_some, p1, acR hSp, (p2.2.1 1 3 rfl).trans h0]
        · rw [if_neg e0, if_neg e0, show (1 : Int32) = nI 1 from rfl, f25N hSv v4.1, Option.bind_some]
          obtain ⟨s1, s2⟩ := spo_ok (σ := υ) 1 (tkS f N y.1)
          have hSs := s1.sh hSv
          obtain ⟨ψ, p1, p2, p3⟩ := hfl 1 (flk_mk (by decide) (by decide))
          unfold f24_106
          simp only [acR hSs, Option.bind_some, s2.1]
          rw [if_neg (show ¬ nI (1, tkS f N y.1).1 = 0 from nI_ne0 (n := 1) (by decide) (by decide))]
          exact ⟨ψ, p1, p2, p3⟩
end CLASS
