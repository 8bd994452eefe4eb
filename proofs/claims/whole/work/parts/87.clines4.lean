/-! THE TEXT: the class's lines: pairs, asked, heard, went, a line -/
section CLASS
variable {σ : xM} {f : Nat → Int32} {N e : Nat} {D : Drf} {C : Cty}
/-- City.allows, of the reader's city -/
theorem f4_2 (hS : Sh σ) (hC : cC σ 2 C) (hO : OkC C) {p q : Nat} (hp : p < pe C) (hq : q < pe C) : f4 2 (nI p) (nI q) σ = some (bo (alw C p q), σ) := by
  have h6 := hO.1
  have k1 := (hC.2.1 p hp).1
  have k2 := (hC.2.1 q hq).1
  have k3 := (hC.2.2.1 q (by omega)).1
  have b1 := (hO.2.1 p hp).1
  have b2 := (hO.2.1 q hq).1
  unfold f4 f4_48 f4_52 f4_53
  simp only [acR hS, Option.bind_some, show p < 6 by omega, show q < 6 by omega, k1, k2, k3, f124N (hO.nr64 (show q < 6 by omega)) (show p < 6 by omega), bo_0, rZ0, rZ1, rZ1', nI_eq (show p < 2 ^ 31 by omega) (show q < 2 ^ 31 by omega), show (3 : Int32) = nI 3 from rfl, show (1 : Int32) = nI 1 from rfl, show (2 : Int32) = nI 2 from rfl, nI_eq (show kd C p < 2 ^ 31 by omega) (show 3 < 2 ^ 31 by omega), nI_eq (show kd C q < 2 ^ 31 by omega) (show 1 < 2 ^ 31 by omega), nI_eq (show kd C q < 2 ^ 31 by omega) (show 2 < 2 ^ 31 by omega)]
  unfold alw
  by_cases e1 : p = q
  · simp [e1]
  · by_cases e2 : kd C p = 3
    · simp [e1, e2]
    · by_cases e3 : kd C q = 1
      · simp [e1, e2, e3]
      · by_cases e4 : kd C q = 2
        · simp only [e1, e2, e3, e4]
          cases tb (nr C q) p <;> simp [rZ1']
        · simp [e1, e2, e3, e4, rZ1']
/-- takePair -/
theorem c41 (h : cRd σ f N e D) (hO : OkD D) : (∃ x τ, lPair f N D e = .inl x ∧ f41 1 σ = some (-1, τ) ∧ Upd Prd σ τ ∧ cFl τ x) ∨ (∃ y τ, lPair f N D e = .inr y ∧ f41 1 σ = some (nI (y.2.1 * 6 + y.2.2), τ) ∧ Upd Prd σ τ ∧ cRd τ f N y.1 D) := by
  obtain ⟨h1, h2, h3, h4, h5, h6, h7⟩ := id h
  have hS := h1.1
  have hp6 := hO.1.1
  have b1 := tkE_b (f := f) h2
  have h35 := f35N h hO
  unfold f41 f41_69 lPair
  simp only [acR hS, Option.bind_some]
  cases e1 : pAt f N D e with
  | inl x =>
    rw [e1] at h35
    obtain ⟨τ, t1, t2, t3⟩ := h35
    rw [t1, Option.bind_some, if_pos rfl]
    exact Or.inl ⟨x, τ, rfl, rfl, t2, t3⟩
  | inr p =>
    rw [e1] at h35
    obtain ⟨hp, τ, t1, t2, t3, t4⟩ := h35
    have hSt := t3.1.1
    have hkb := (hO.1.2.1 p hp).1
    have c3 : mI τ 3 p = nI (kd (dC D) p) := (t3.2.2.2.2.2.1.2.1 p hp).1
    rw [t1, Option.bind_some, if_neg (obB_p (by omega))]
    simp only [acR hSt, Option.bind_some, show p < 6 by omega, c3, show (nI (kd (dC D) p) = 3) = (kd (dC D) p = 3) from propext (nI_eq (a := kd (dC D) p) (b := 3) (by omega) (by omega))]
    by_cases e0 : kd (dC D) p = 3
    · rw [if_pos e0, if_pos e0, show (7 : Int32) = nI 7 from rfl, f25N hSt t4.1, Option.bind_some]
      exact Or.inl ⟨_, _, rfl, rfl, t2.trans (spo_ok 7 _).1, (spo_ok 7 _).2⟩
    · rw [if_neg e0, if_neg e0]
      have h35b := f35N t3 hO
      cases e2 : pAt f N D (tkE f N e) with
      | inl x =>
        rw [e2] at h35b
        obtain ⟨υ, v1, v2, v3⟩ := h35b
        rw [v1, Option.bind_some, if_pos rfl]
        exact Or.inl ⟨x, υ, rfl, rfl, t2.trans v2, v3⟩
      | inr q =>
        rw [e2] at h35b
        obtain ⟨hq, υ, v1, v2, v3, v4⟩ := h35b
        have hSv := v3.1.1
        have uv := t2.trans v2
        have c8 : mI υ 8 (p * 6 + q) = rC (r0 (dC D) p q) := v3.2.2.2.2.2.1.2.2.2.1 p (by omega) q (by omega)
        have hr2 : (rC (r0 (dC D) p q) = -2) = ((r0 (dC D) p q).isSome = false) := by
          apply propext
          cases er : r0 (dC D) p q with
          | none => exact ⟨fun _ => rfl, fun _ => rfl⟩
          | some z =>
            have hz := (hO.1.2.2.2.2.2.2.2.1 p q z er).2.2
            have h99 := hO.1.2.2.2.2.2.2.2.2.2.1
            refine ⟨fun h => ?_, fun h => by cases h⟩
            have h1 := nI_pos (show z < 2 ^ 31 by omega)
            rw [show nI z = -2 from h] at h1
            exact absurd (by decide) h1
        rw [v1, Option.bind_some, if_neg (obB_p (by omega))]
        simp only [show (nI q = nI p) = (q = p) from propext (nI_eq (by omega) (by omega)), acR hSv, Option.bind_some, f125_eq, nI_pair, show p * 6 + q < 36 by omega, c8, hr2, f4_2 hSv v3.2.2.2.2.2.1 hO.1 hp hq, bo_0]
        by_cases e3 : q = p
        · rw [if_pos e3, if_pos (Or.inl e3), show (3 : Int32) = nI 3 from rfl, f25N hSv v4.1, Option.bind_some]
          exact Or.inl ⟨_, _, rfl, rfl, uv.trans (spo_ok 3 _).1, (spo_ok 3 _).2⟩
        · rw [if_neg e3]
          cases e4 : (r0 (dC D) p q).isSome
          · rw [if_pos rfl, if_neg (fun h => h.elim e3 (fun h => by cases h))]
            cases e5 : alw (dC D) p q
            · rw [if_pos rfl, if_pos rfl, show (7 : Int32) = nI 7 from rfl, f25N hSv v4.1, Option.bind_some]
              exact Or.inl ⟨_, _, rfl, rfl, uv.trans (spo_ok 7 _).1, (spo_ok 7 _).2⟩
            · rw [if_neg (by simp), if_neg (by simp)]
              exact Or.inr ⟨_, υ, rfl, rfl, uv, v3⟩
          · rw [if_pos (Or.inr rfl), if_neg (show ¬ true = false by simp), show (3 : Int32) = nI 3 from rfl, f25N hSv v4.1, Option.bind_some]
            exact Or.inl ⟨_, _, rfl, rfl, uv.trans (spo_ok 3 _).1, (spo_ok 3 _).2⟩
/-- readAsked -/
theorem c42 (h : cRd σ f N e D) (hO : OkD D) : cRs σ f N (f42 1 σ) (lAsk f N D e) := by
  obtain ⟨h1, h2, h3, h4, h5, h6, h7⟩ := id h
  have hS := h1.1
  have hp6 := hO.1.1
  have h99 := hO.1.2.2.2.2.2.2.2.2.2.1
  unfold f42 f42_34 lAsk
  simp only [acR hS, Option.bind_some, ← kAt_ok.2.1]
  rcases c41 h hO with ⟨x, τ, e1, t1, t2, t3⟩ | ⟨y, τ, e1, t1, t2, t3⟩
  · rw [e1, t1, Option.bind_some, if_pos rfl]
    exact ⟨τ, rfl, t2, t3⟩
  · obtain ⟨p1, p2, p3, p4, p5, p6⟩ := lPair_ok h2 e1
    have hSt := t3.1.1
    have i36 : y.2.1 * 6 + y.2.2 < 36 := by omega
    rw [e1, t1, Option.bind_some, if_neg (obB_p (by omega))]
    simp only [acR hSt, Option.bind_some]
    rcases cpt t3.1 p2 t3.2.2.1 kAt_ok.1 (show hr0 (dC D) < 2 ^ 31 by omega) with ⟨x, ρ, q1, q2, q3, q4⟩ | ⟨x, ρ, ψ, q1, q2, q3, q4, q5, q6⟩ | ⟨z, ρ, ψ, q1, q2, q3, q4, q5, q6, q7, q8, q9, q10⟩
    · simp only [q1, q2, Option.bind_some]
      exact ⟨ρ, rfl, t2.trans q3, q4⟩
    · have hSr := q3.sh hSt
      have e20 : mI ρ 2 0 = nI (hr0 (dC D)) := (sp_I q3 0 (by omega)).trans t3.2.2.2.2.2.1.1.1
      simp only [q1, q2, Option.bind_some, acR hSr, bo_0, e20, q4]
      exact ⟨ψ, rfl, t2.trans q5, q6⟩
    · have hSr := q3.sh hSt
      have hSp := q5.sh hSt
      have up := t2.trans (rd_sp q5)
      have e20 : mI ρ 2 0 = nI (hr0 (dC D)) := (sp_I q3 0 (by omega)).trans t3.2.2.2.2.2.1.1.1
      have hS8 : Sh (wI ψ 8 (y.2.1 * 6 + y.2.2) (nI z.2)) := hSp
      have e24 : mI (wI ψ 8 (y.2.1 * 6 + y.2.2) (nI z.2)) 2 4 = nI (nAs (dC D)) := by rw [mI_w, if_neg (by omega), sp_I q5 4 (by omega)]; exact t3.2.2.2.2.2.1.1.2.2.2.2.1
      have u5 : Upd Prd σ (wI (wI ψ 8 (y.2.1 * 6 + y.2.2) (nI z.2)) 2 4 (nI (nAs (dC D) + 1))) := (up.wI rfl).wI rfl
      simp only [q1, q2, Option.bind_some, acR hSr, bo_0, e20, q4, acR hSp, q7, i36, acR hS8, e24, nI_1]
      refine ⟨_, rfl, u5, rdB_rd u5 h1, q9, ?_, ?_, ?_, ?_, fun i hi => ?_⟩
      · rw [mI_w, if_neg (by omega), mI_w, if_neg (by omega)]; exact q6
      · rw [mI_w, if_neg (by omega), mI_w, if_neg (by omega), q5.2.1 1 3 rfl]; exact t3.2.2.2.1
      · rw [mI_w, if_neg (by omega), mI_w, if_neg (by omega), q5.2.1 1 11 rfl]; exact t3.2.2.2.2.1
      · refine cC_ask t3.2.2.2.2.2.1 (show y.2.1 < 6 by omega) (show y.2.2 < 6 by omega) hO.1 p6 (fun a i a1 a2 a3 => ?_) ?_ ?_
        · rw [mI_w, if_neg (by omega), mI_w, if_neg (by omega), sp_I q5 i (by omega)]
        · rw [mI_w, if_pos ⟨rfl, rfl⟩]
        · rw [mI_w, if_neg (by omega), mI_w, if_pos ⟨rfl, rfl⟩]
      · show mJ ψ 14 i = _
        rw [sp_J q5 i (by omega)]
        exact t3.2.2.2.2.2.2 i hi
/-- readHeard -/
theorem c43 (h : cRd σ f N e D) (hO : OkD D) (hn3 : nHe (dC D) < 3) : cRs σ f N (f43 1 σ) (lHea f N D e) := by
  obtain ⟨h1, h2, h3, h4, h5, h6, h7⟩ := id h
  have hS := h1.1
  have hp6 := hO.1.1
  have h99 := hO.1.2.2.2.2.2.2.2.2.2.1
  unfold f43 f43_42 f43_98 lHea
  simp only [acR hS, Option.bind_some, ← kAt_ok.2.1, ← kGive_ok.2.1, h6.1.2.2.2.2.2.1]
  rcases c41 h hO with ⟨x, τ, e1, t1, t2, t3⟩ | ⟨y, τ, e1, t1, t2, t3⟩
  · rw [e1, t1, Option.bind_some, if_pos rfl]
    exact ⟨τ, rfl, t2, t3⟩
  · obtain ⟨p1, p2, p3, p4, p5, p6⟩ := lPair_ok h2 e1
    have hSt := t3.1.1
    have i36 : y.2.1 * 6 + y.2.2 < 36 := by omega
    rw [e1, t1, Option.bind_some, if_neg (obB_p (by omega))]
    simp only [acR hSt, Option.bind_some]
    rcases cpt t3.1 p2 t3.2.2.1 kAt_ok.1 (show hr0 (dC D) < 2 ^ 31 by omega) with ⟨x, ρ, q1, q2, q3, q4⟩ | ⟨x, ρ, ψ, q1, q2, q3, q4, q5, q6⟩ | ⟨z, ρ, ψ, q1, q2, q3, q4, q5, q6, q7, q8, q9, q10⟩
    · simp only [q1, q2, Option.bind_some]
      exact ⟨ρ, rfl, t2.trans q3, q4⟩
    · have hSr := q3.sh hSt
      have e20 : mI ρ 2 0 = nI (hr0 (dC D)) := (sp_I q3 0 (by omega)).trans t3.2.2.2.2.2.1.1.1
      simp only [q1, q2, Option.bind_some, acR hSr, bo_0, e20, q4]
      exact ⟨ψ, rfl, t2.trans q5, q6⟩
    · have hSr := q3.sh hSt
      have hSp := q5.sh hSt
      have up := t2.trans (rd_sp q5)
      have e20 : mI ρ 2 0 = nI (hr0 (dC D)) := (sp_I q3 0 (by omega)).trans t3.2.2.2.2.2.1.1.1
      have hS8 : Sh (wI ψ 8 (y.2.1 * 6 + y.2.2) (nI z.2)) := hSp
      have hS9 : Sh (wI (wI ψ 8 (y.2.1 * 6 + y.2.2) (nI z.2)) 10 (nHe (dC D)) (nI (y.2.1 * 6 + y.2.2))) := hSp
      have e19 : mI (wI (wI ψ 8 (y.2.1 * 6 + y.2.2) (nI z.2)) 10 (nHe (dC D)) (nI (y.2.1 * 6 + y.2.2))) 1 9 = nI z.2 := by rw [mI_w, if_neg (by omega), mI_w, if_neg (by omega)]; exact q7
      simp only [q1, q2, Option.bind_some, acR hSr, bo_0, e20, q4, acR hSp, q7, i36, acR hS8, hn3, acR hS9, e19]
      have u5 : Upd Prd σ (wI (wI (wI ψ 8 (y.2.1 * 6 + y.2.2) (nI z.2)) 10 (nHe (dC D)) (nI (y.2.1 * 6 + y.2.2))) 11 (nHe (dC D)) (nI z.2)) := ((up.wI rfl).wI rfl).wI rfl
      have hB5 := rdB_rd u5 h1
      have g8 : mI (wI (wI (wI ψ 8 (y.2.1 * 6 + y.2.2) (nI z.2)) 10 (nHe (dC D)) (nI (y.2.1 * 6 + y.2.2))) 11 (nHe (dC D)) (nI z.2)) 1 8 = nI z.1 := by rw [mI_w, if_neg (by omega), mI_w, if_neg (by omega), mI_w, if_neg (by omega)]; exact q6
      have g13 : mI (wI (wI (wI ψ 8 (y.2.1 * 6 + y.2.2) (nI z.2)) 10 (nHe (dC D)) (nI (y.2.1 * 6 + y.2.2))) 11 (nHe (dC D)) (nI z.2)) 1 3 = 0 := by rw [mI_w, if_neg (by omega), mI_w, if_neg (by omega), mI_w, if_neg (by omega), q5.2.1 1 3 rfl]; exact t3.2.2.2.1
      have g111 : mI (wI (wI (wI ψ 8 (y.2.1 * 6 + y.2.2) (nI z.2)) 10 (nHe (dC D)) (nI (y.2.1 * 6 + y.2.2))) 11 (nHe (dC D)) (nI z.2)) 1 11 = bo (dB D) := by rw [mI_w, if_neg (by omega), mI_w, if_neg (by omega), mI_w, if_neg (by omega), q5.2.1 1 11 rfl]; exact t3.2.2.2.2.1
      have hcell : ∀ a i, 2 ≤ a → a ≤ 12 → ¬ ((a = 8 ∧ i = y.2.1 * 6 + y.2.2) ∨ (10 ≤ a ∧ i = nHe (dC D))) → mI (wI (wI (wI ψ 8 (y.2.1 * 6 + y.2.2) (nI z.2)) 10 (nHe (dC D)) (nI (y.2.1 * 6 + y.2.2))) 11 (nHe (dC D)) (nI z.2)) a i = mI τ a i := fun a i a1 a2 a3 => by
        rw [mI_w, if_neg (by omega), mI_w, if_neg (by omega), mI_w, if_neg (by omega), sp_I q5 i (by omega)]
      have m8 : mI (wI (wI (wI ψ 8 (y.2.1 * 6 + y.2.2) (nI z.2)) 10 (nHe (dC D)) (nI (y.2.1 * 6 + y.2.2))) 11 (nHe (dC D)) (nI z.2)) 8 (y.2.1 * 6 + y.2.2) = nI z.2 := by rw [mI_w, if_neg (by omega), mI_w, if_neg (by omega), mI_w, if_pos ⟨rfl, rfl⟩]
      have m10 : mI (wI (wI (wI ψ 8 (y.2.1 * 6 + y.2.2) (nI z.2)) 10 (nHe (dC D)) (nI (y.2.1 * 6 + y.2.2))) 11 (nHe (dC D)) (nI z.2)) 10 (nHe (dC D)) = nI (y.2.1 * 6 + y.2.2) := by rw [mI_w, if_neg (by omega), mI_w, if_pos ⟨rfl, rfl⟩]
      have m11 : mI (wI (wI (wI ψ 8 (y.2.1 * 6 + y.2.2) (nI z.2)) 10 (nHe (dC D)) (nI (y.2.1 * 6 + y.2.2))) 11 (nHe (dC D)) (nI z.2)) 11 (nHe (dC D)) = nI z.2 := by rw [mI_w, if_pos ⟨rfl, rfl⟩]
      have mn : ∀ i, mJ (wI (wI (wI ψ 8 (y.2.1 * 6 + y.2.2) (nI z.2)) 10 (nHe (dC D)) (nI (y.2.1 * 6 + y.2.2))) 11 (nHe (dC D)) (nI z.2)) 14 i = mJ τ 14 i := fun i => sp_J q5 i (by omega)
      generalize wI (wI (wI ψ 8 (y.2.1 * 6 + y.2.2) (nI z.2)) 10 (nHe (dC D)) (nI (y.2.1 * 6 + y.2.2))) 11 (nHe (dC D)) (nI z.2) = ω at u5 hB5 g8 g13 g111 hcell m8 m10 m11 mn
      rw [show (3 : Int32) = nI 3 from rfl]
      rcases cpt hB5 q9 g8 kGive_ok.1 (show 3 < 2 ^ 31 by decide) with ⟨x, α, s1, s2, s3, s4⟩ | ⟨x, α, β, s1, s2, s3, s4, s5, s6⟩ | ⟨u, α, β, s1, s2, s3, s4, s5, s6, s7, s8, s9, s10⟩
      · simp only [s1, acR hB5.1, Option.bind_some, s2]
        exact ⟨α, rfl, u5.trans s3, s4⟩
      · have hSa := s3.sh hB5.1
        simp only [s1, acR hB5.1, Option.bind_some, s2, acR hSa, s4, bo_0]
        exact ⟨β, rfl, u5.trans s5, s6⟩
      · have hSa := s3.sh hB5.1
        have hSb := s5.sh hB5.1
        have ub := u5.trans (rd_sp s5)
        have hSc : Sh (wI β 12 (nHe (dC D)) (nI u.2)) := hSb
        have e25 : mI (wI β 12 (nHe (dC D)) (nI u.2)) 2 5 = nI (nHe (dC D)) := by rw [mI_w, if_neg (by omega), sp_I s5 5 (by omega), hcell 2 5 (by omega) (by omega) (by omega)]; exact t3.2.2.2.2.2.1.1.2.2.2.2.2.1
        have u6 : Upd Prd σ (wI (wI β 12 (nHe (dC D)) (nI u.2)) 2 5 (nI (nHe (dC D) + 1))) := (ub.wI rfl).wI rfl
        simp only [s1, acR hB5.1, Option.bind_some, s2, acR hSa, s4, bo_0, acR hSb, s7, hn3, acR hSc, e25, nI_1]
        refine ⟨_, rfl, u6, rdB_rd u6 h1, s9, ?_, ?_, ?_, ?_, fun i hi => ?_⟩
        · rw [mI_w, if_neg (by omega), mI_w, if_neg (by omega)]; exact s6
        · rw [mI_w, if_neg (by omega), mI_w, if_neg (by omega), s5.2.1 1 3 rfl]; exact g13
        · rw [mI_w, if_neg (by omega), mI_w, if_neg (by omega), s5.2.1 1 11 rfl]; exact g111
        · refine cC_hea t3.2.2.2.2.2.1 (show y.2.1 < 6 by omega) (show y.2.2 < 6 by omega) hO.1 p6 (fun a i a1 a2 a3 => ?_) ?_ ?_ ?_ ?_ ?_
          · rw [mI_w, if_neg (by omega), mI_w, if_neg (by omega), sp_I s5 i (by omega), hcell a i a1 a2 (by omega)]
          · rw [mI_w, if_pos ⟨rfl, rfl⟩]
          · rw [mI_w, if_neg (by omega), mI_w, if_neg (by omega), sp_I s5 _ (by omega)]; exact m8
          · rw [mI_w, if_neg (by omega), mI_w, if_neg (by omega), sp_I s5 _ (by omega)]; exact m10
          · rw [mI_w, if_neg (by omega), mI_w, if_neg (by omega), sp_I s5 _ (by omega)]; exact m11
          · rw [mI_w, if_neg (by omega), mI_w, if_pos ⟨rfl, rfl⟩]
        · show mJ β 14 i = _
          rw [sp_J s5 i (by omega), mn]
          exact t3.2.2.2.2.2.2 i hi
/-- readWent -/
theorem c44 (h : cRd σ f N e D) (hO : OkD D) : cRs σ f N (f44 1 σ) (lWen f N D e) := by
  obtain ⟨h1, h2, h3, h4, h5, h6, h7⟩ := id h
  have hS := h1.1
  have hp6 := hO.1.1
  have b1 := tkE_b (f := f) h2
  have b2 := tkE_b (f := f) b1.2
  have h35 := f35N h hO
  unfold f44 lWen
  simp only [acR hS, Option.bind_some, ← kCat_ok.2.1]
  cases e1 : pAt f N D e with
  | inl x =>
    rw [e1] at h35
    obtain ⟨τ, t1, t2, t3⟩ := h35
    rw [t1, Option.bind_some]
    exact ⟨τ, rfl, t2, t3⟩
  | inr p =>
    rw [e1] at h35
    obtain ⟨hp, τ, t1, t2, t3, t4⟩ := h35
    have hSt := t3.1.1
    have c7 : mI τ 7 p = wC (wn (dC D) p) := (t3.2.2.2.2.2.1.2.2.1 p (by omega)).2
    have hw3 : (wC (wn (dC D) p) = -3) = ((wn (dC D) p).isSome = false) := by
      rw [wC_m3 hO.1 p]
      apply propext
      cases wn (dC D) p <;> simp
    rw [t1, Option.bind_some, if_neg (obB_p (by omega))]
    simp only [acR hSt, Option.bind_some, show p < 6 by omega, c7, hw3]
    cases e0 : (wn (dC D) p).isSome
    · rw [if_pos rfl, if_neg (by simp)]
      obtain ⟨υ, v1, v2, v3, v4⟩ := c26 t3
      have hSv := v3.1.1
      have uv := t2.trans (rd_sp v2)
      have hend : ∀ (w : Option Nat), (∀ q, w = some q → q < pe (dC D) ∧ q ≠ p) → cRs σ f N (f44_56 1 (nI p) (ob w) υ) (.inr (tkE f N (tkE f N e), (sWen (dC D) p w, dN D, dB D))) := fun w hw => by
        have hSw : Sh (wI υ 7 p (ob w)) := hSv
        have e26 : mI (wI υ 7 p (ob w)) 2 6 = nI (nWe (dC D)) := by rw [mI_w, if_neg (by omega)]; exact v3.2.2.2.2.2.1.1.2.2.2.2.2.2
        have u5 : Upd Prd σ (wI (wI υ 7 p (ob w)) 2 6 (nI (nWe (dC D) + 1))) := (uv.wI rfl).wI rfl
        have hn1 : ¬ ob w = -1 := by
          cases w with
          | none => decide
          | some q => exact obB_p (by have := (hw q rfl).1; omega)
        have hnp : ¬ ob w = nI p := by
          cases w with
          | none => exact fun h => nI_m2 (show p < 6 by omega) h.symm
          | some q => exact fun h => (hw q rfl).2 ((nI_eq (by have := (hw q rfl).1; omega) (by omega)).mp h)
        unfold f44_56
        rw [if_neg hn1, if_neg hnp]
        simp only [acR hSv, Option.bind_some, show p < 6 by omega, acR hSw, e26, nI_1]
        refine ⟨_, rfl, u5, rdB_rd u5 h1, b2.2, ?_, ?_, ?_, ?_, fun i hi => v3.2.2.2.2.2.2 i hi⟩
        · rw [mI_w, if_neg (by omega), mI_w, if_neg (by omega)]; exact v3.2.2.1
        · rw [mI_w, if_neg (by omega), mI_w, if_neg (by omega)]; exact v3.2.2.2.1
        · rw [mI_w, if_neg (by omega), mI_w, if_neg (by omega)]; exact v3.2.2.2.2.1
        · refine cC_wen v3.2.2.2.2.2.1 (fun a i a1 a2 a3 => ?_) ?_ ?_
          · rw [mI_w, if_neg (by omega), mI_w, if_neg (by omega)]
          · rw [mI_w, if_pos ⟨rfl, rfl⟩]
          · rw [mI_w, if_neg (by omega), mI_w, if_pos ⟨rfl, rfl⟩]
      simp only [v1, Option.bind_some, acR hSv, f29N hSv b1.2 v4 kCat_ok.1, bo_0]
      cases e2 : isW f N kCat (tkE f N e)
      · rw [if_pos rfl, if_neg (by simp)]
        have h34 := f34N v3 hO b1.2 v4
        cases e3 : pAt f N D (tkE f N e) with
        | inl x =>
          rw [e3] at h34
          obtain ⟨ψ, y1, y2, y3⟩ := h34
          rw [y1, Option.bind_some]
          exact ⟨ψ, rfl, uv.trans y2, y3⟩
        | inr q =>
          rw [e3] at h34
          obtain ⟨y1, y2⟩ := h34
          rw [y1, Option.bind_some]
          by_cases e4 : q = p
          · simp only
            rw [if_pos e4]
            unfold f44_56
            rw [if_neg (obB_p (by omega)), if_pos (by rw [e4])]
            simp only [acR hSv, Option.bind_some, show (3 : Int32) = nI 3 from rfl, f25N hSv v4.1]
            exact ⟨_, rfl, uv.trans (spo_ok 3 _).1, (spo_ok 3 _).2⟩
          · simp only
            rw [if_neg e4]
            exact hend (some q) (fun z hz => by cases hz; exact ⟨y2, e4⟩)
      · rw [if_neg (by simp), if_pos rfl]
        exact hend none (fun z hz => by cases hz)
    · rw [if_neg (by simp), if_pos rfl, show (3 : Int32) = nI 3 from rfl, f25N hSt t4.1, Option.bind_some]
      exact ⟨_, rfl, t2.trans (spo_ok 3 _).1, (spo_ok 3 _).2⟩
end CLASS
