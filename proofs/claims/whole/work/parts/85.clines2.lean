/-! THE TEXT: the class's lines: head, person -/
section CLASS
variable {σ : xM} {f : Nat → Int32} {N e : Nat} {D : Drf}
theorem sp_I {τ : xM} (h : Upd Psp σ τ) {a : Nat} (k : Nat) (ha : a ≠ 1) : mI τ a k = mI σ a k := h.2.1 a k (Psp_2 k ha)
theorem sp_J {τ : xM} (h : Upd Psp σ τ) {a : Nat} (k : Nat) (ha : a ≠ 1) : mJ τ a k = mJ σ a k := h.2.2 a k (Psp_2 k ha)
theorem tkK_4 : tkK f N e ≤ 4 := by
  unfold tkK
  repeat' split
  all_goals omega
theorem s30 (hB : rdB σ f N) (he : e ≤ N) (h8 : mI σ 1 8 = nI e) {w : List Nat} (hw : okW w) : (isW f N w e = true ∧ ∃ τ, f30 1 (lN (wdC w)) σ = some (bo true, τ) ∧ Upd Psp σ τ ∧ cTk τ f N e) ∨ (isW f N w e = false ∧ ∃ τ, f30 1 (lN (wdC w)) σ = some (bo false, τ) ∧ Upd Prd σ τ ∧ cFl τ (1, tkS f N e)) := by
  obtain ⟨τ, t1, t2, t4⟩ := f26N hB he h8
  have hS := hB.1
  have hS' := t2.sh hS
  unfold f30 f30_26 f30_21
  simp only [acR hS, Option.bind_some, t1, acR hS', f29N hS' he t4 hw, bo_0, rZ0, rZ1]
  cases e1 : isW f N w e
  · refine Or.inr ⟨rfl, ?_⟩
    rw [if_pos rfl, show (1 : Int32) = nI 1 from rfl, f25N hS' t4.1, Option.bind_some]
    exact ⟨_, rfl, (rd_sp t2).trans (spo_ok 1 _).1, (spo_ok 1 _).2⟩
  · refine Or.inl ⟨rfl, ?_⟩
    rw [if_neg (by simp)]
    exact ⟨τ, rfl, t2, t4⟩
theorem s31 (hB : rdB σ f N) (he : e ≤ N) (h8 : mI σ 1 8 = nI e) {m : Nat} (hm : m < 2 ^ 31) : (tkK f N e = 2 ∧ tkV f N e ≤ m ∧ ∃ τ, f31 1 (nI m) σ = some (bo true, τ) ∧ Upd Psp σ τ ∧ cTk τ f N e) ∨ (tkK f N e = 2 ∧ ¬ tkV f N e ≤ m ∧ ∃ τ, f31 1 (nI m) σ = some (bo false, τ) ∧ Upd Prd σ τ ∧ cFl τ (4, tkS f N e)) ∨ (¬ tkK f N e = 2 ∧ ∃ τ, f31 1 (nI m) σ = some (bo false, τ) ∧ Upd Prd σ τ ∧ cFl τ (1, tkS f N e)) := by
  obtain ⟨τ, t1, t2, t4⟩ := f26N hB he h8
  have hS := hB.1
  have hS' := t2.sh hS
  have hk := tkK_4 (f := f) (N := N) (e := e)
  have e0 : f31 1 (nI m) σ = if tkK f N e = 2 then (if tkV f N e ≤ m then some (bo true, τ) else some (bo false, spo τ (nI 4) (tkS f N e))) else some (bo false, spo τ (nI 1) (tkS f N e)) := by
    unfold f31 f31_35 f31_30
    simp only [acR hS, Option.bind_some, t1, show (nI (tkK f N e) = 2) = (tkK f N e = 2) from propext (nI_eq (a := tkK f N e) (b := 2) (by omega) (by omega)), acR hS', rZ1, show (1 : Int32) = nI 1 from rfl, show (4 : Int32) = nI 4 from rfl, f25N hS' t4.1, bo_0, rZ0, bo_Z, rZ1']
    by_cases e2 : tkK f N e = 2
    · have hv := tkV_ok he e2
      rw [if_pos e2, if_pos e2, t4.2.2.2.2 e2]
      simp only [nI_leI (show tkV f N e < 2 ^ 31 by omega) hm, if_true]
      rw [show f31_35 (nI 1) τ = some (bo true, τ) from rZ1' τ]
    · rw [if_neg e2, if_neg e2]
  rw [e0]
  by_cases e2 : tkK f N e = 2
  · rw [if_pos e2]
    by_cases e3 : tkV f N e ≤ m
    · rw [if_pos e3]
      exact Or.inl ⟨e2, e3, τ, rfl, t2, t4⟩
    · rw [if_neg e3]
      exact Or.inr (Or.inl ⟨e2, e3, _, rfl, (rd_sp t2).trans (spo_ok 4 _).1, (spo_ok 4 _).2⟩)
  · rw [if_neg e2]
    exact Or.inr (Or.inr ⟨e2, _, rfl, (rd_sp t2).trans (spo_ok 1 _).1, (spo_ok 1 _).2⟩)
/-- a word and a whole -/
theorem cpt (hB : rdB σ f N) (he : e ≤ N) (h8 : mI σ 1 8 = nI e) {w : List Nat} (hw : okW w) {m : Nat} (hm : m < 2 ^ 31) : (∃ x τ, pt f N w m e = .inl x ∧ f30 1 (lN (wdC w)) σ = some (bo false, τ) ∧ Upd Prd σ τ ∧ cFl τ x) ∨ (∃ x τ υ, pt f N w m e = .inl x ∧ f30 1 (lN (wdC w)) σ = some (bo true, τ) ∧ Upd Psp σ τ ∧ f31 1 (nI m) τ = some (bo false, υ) ∧ Upd Prd σ υ ∧ cFl υ x) ∨ (∃ y τ υ, pt f N w m e = .inr y ∧ f30 1 (lN (wdC w)) σ = some (bo true, τ) ∧ Upd Psp σ τ ∧ f31 1 (nI m) τ = some (bo true, υ) ∧ Upd Psp σ υ ∧ mI υ 1 8 = nI y.1 ∧ mI υ 1 9 = nI y.2 ∧ e ≤ y.1 ∧ y.1 ≤ N ∧ y.2 ≤ m) := by
  have b1 := tkE_b (f := f) he
  have b2 := tkE_b (f := f) b1.2
  unfold pt
  rcases s30 hB he h8 hw with ⟨i1, τ, t1, t2, t3⟩ | ⟨i1, τ, t1, t2, t3⟩
  · rw [i1, if_pos rfl]
    rcases s31 (rdB_rd (rd_sp t2) hB) b1.2 t3.2.1 hm with ⟨k1, k2, υ, v1, v2, v3⟩ | ⟨k1, k2, υ, v1, v2, v3⟩ | ⟨k1, υ, v1, v2, v3⟩
    · rw [if_pos k1, if_pos k2]
      exact Or.inr (Or.inr ⟨_, τ, υ, rfl, t1, t2, v1, t2.trans v2, v3.2.1, v3.2.2.2.2 k1, by show e ≤ tkE f N (tkE f N e); omega, b2.2, k2⟩)
    · rw [if_pos k1, if_neg k2]
      exact Or.inr (Or.inl ⟨_, τ, υ, rfl, t1, t2, v1, (rd_sp t2).trans v2, v3⟩)
    · rw [if_neg k1]
      exact Or.inr (Or.inl ⟨_, τ, υ, rfl, t1, t2, v1, (rd_sp t2).trans v2, v3⟩)
  · rw [i1, if_neg (by simp)]
    exact Or.inl ⟨_, τ, rfl, t1, t2, t3⟩
/-- readHead -/
theorem c37 (h : cRd σ f N e D) : cRs σ f N (f37 1 σ) (lHead f N D e) := by
  obtain ⟨h1, h2, h3, h4, h5, h6, h7⟩ := id h
  have hS := h1.1
  have u1 : Upd Prd σ (wI σ 1 11 1) := Upd.refl.wI rfl
  have hB1 := rdB_rd u1 h1
  have g8 : mI (wI σ 1 11 1) 1 8 = nI e := by rw [mI_w, if_neg (by omega)]; exact h3
  have r0' : pZ σ 1 3 11 1 = some (wI σ 1 11 1) := by simp only [acR hS, or_true]
  unfold f37 f37_24 f37_56 lHead
  rw [r0', Option.bind_some]
  simp only [← kHour_ok.2.1, ← kGives_ok.2.1, show (99 : Int32) = nI 99 from rfl, show (9 : Int32) = nI 9 from rfl, acR hB1.1, Option.bind_some]
  rcases cpt hB1 h2 g8 kHour_ok.1 (show 99 < 2 ^ 31 by decide) with ⟨x, τ, e1, t1, t2, t3⟩ | ⟨x, τ, υ, e1, t1, t2, v1, v2, v3⟩ | ⟨y, τ, υ, e1, t1, t2, v1, v2, v3, v4, v5, v6, v7⟩
  · rw [e1, t1, Option.bind_some]
    exact ⟨τ, rfl, u1.trans t2, t3⟩
  · have hS2 := t2.sh hB1.1
    rw [e1, t1, Option.bind_some]
    simp only [acR hS2, Option.bind_some, v1, bo_0]
    rw [if_neg (by simp)]
    exact ⟨υ, rfl, u1.trans v2, v3⟩
  · have hS2 := t2.sh hB1.1
    have hS3 := v2.sh hB1.1
    have u3 := u1.trans (rd_sp v2)
    rw [e1, t1, Option.bind_some]
    simp only [acR hS2, Option.bind_some, v1, bo_0, acR hS3, v4]
    rw [if_neg (by simp), if_neg (by simp)]
    have u4 : Upd Prd σ (wI υ 2 0 (nI y.2)) := u3.wI rfl
    have hB4 := rdB_rd u4 h1
    have g84 : mI (wI υ 2 0 (nI y.2)) 1 8 = nI y.1 := by rw [mI_w, if_neg (by omega)]; exact v3
    rcases cpt hB4 v6 g84 kGives_ok.1 (show 9 < 2 ^ 31 by decide) with ⟨x, ρ, e2, p1, p2, p3⟩ | ⟨x, ρ, ψ, e2, p1, p2, q1, q2, q3⟩ | ⟨z, ρ, ψ, e2, p1, p2, q1, q2, q3, q4, q5, q6, q7⟩
    · simp only [e2, acR hB4.1, Option.bind_some, p1]
      exact ⟨ρ, rfl, u4.trans p2, p3⟩
    · have hS5 := p2.sh hB4.1
      simp only [e2, acR hB4.1, Option.bind_some, p1, acR hS5, q1, bo_0]
      exact ⟨ψ, rfl, u4.trans q2, q3⟩
    · have hS5 := p2.sh hB4.1
      have hS6 := q2.sh hB4.1
      have u6 := u4.trans (rd_sp q2)
      have u7 : Upd Prd σ (wI ψ 2 1 (nI z.2)) := u6.wI rfl
      simp only [e2, acR hB4.1, Option.bind_some, p1, acR hS5, q1, bo_0, acR hS6, q4]
      refine ⟨wI ψ 2 1 (nI z.2), rfl, u7, rdB_rd u7 h1, q6, ?_, ?_, ?_, ?_, fun p hp => ?_⟩
      · rw [mI_w, if_neg (by omega)]; exact q3
      · rw [mI_w, if_neg (by omega), q2.2.1 1 3 rfl, mI_w, if_neg (by omega), v2.2.1 1 3 rfl, mI_w, if_neg (by omega)]; exact h4
      · rw [mI_w, if_neg (by omega), q2.2.1 1 11 rfl, mI_w, if_neg (by omega), v2.2.1 1 11 rfl, mI_w, if_pos ⟨rfl, rfl⟩]; rfl
      · refine cC_head h6 (fun a k a1 a2 a3 => ?_) ?_ ?_
        · rw [mI_w, if_neg (by omega), sp_I q2 k (by omega), mI_w, if_neg (by omega), sp_I v2 k (by omega), mI_w, if_neg (by omega)]
        · rw [mI_w, if_neg (by omega), sp_I q2 0 (by omega), mI_w, if_pos ⟨rfl, rfl⟩]
        · rw [mI_w, if_pos ⟨rfl, rfl⟩]
      · show mJ ψ 14 p = _
        rw [sp_J q2 p (by omega)]
        show mJ υ 14 p = _
        rw [sp_J v2 p (by omega)]
        exact h7 p hp
end CLASS
