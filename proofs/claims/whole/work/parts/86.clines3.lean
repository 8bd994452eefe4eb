/-! THE TEXT: the class's lines: person, near -/
section CLASS
variable {σ : xM} {f : Nat → Int32} {N e : Nat} {D : Drf}
/-- readNewPerson -/
theorem c38 (h : cRd σ f N e D) (hO : OkD D) (hp6 : pe (dC D) < 6) : cRs σ f N (f38 1 σ) (lPer f N D e) := by
  obtain ⟨h1, h2, h3, h4, h5, h6, h7⟩ := id h
  have hS := h1.1
  have b1 := tkE_b (f := f) h2
  have b2 := tkE_b (f := f) b1.2
  obtain ⟨τ, t1, t2, t3, t4⟩ := c26 h
  have hSt := t3.1.1
  unfold f38 lPer
  simp only [acR hS, Option.bind_some, h6.1.2.2.1, t1, acR hSt, f32N hSt h2 t4, bo_0]
  cases e0 : nmAt f N e
  · rw [if_pos rfl, if_neg (by simp), show (1 : Int32) = nI 1 from rfl, f25N hSt t4.1, Option.bind_some]
    exact ⟨_, rfl, (rd_sp t2).trans (spo_ok 1 _).1, (spo_ok 1 _).2⟩
  · have hk1 : tkK f N e = 1 := by
      unfold nmAt at e0
      rw [Bool.and_eq_true, decide_eq_true_eq] at e0
      exact e0.1
    have h33 := f33N t3 hO h2 t4 hk1
    rw [if_neg (by simp), if_pos rfl, h33, Option.bind_some]
    cases e1 : bea D (tkW f N e) with
    | some p =>
      have hp := bea_lt e1
      simp only
      rw [if_neg (show ¬ obB (some p) = -1 from obB_p (by omega)), show (3 : Int32) = nI 3 from rfl]
      simp only [acR hSt, Option.bind_some, f25N hSt t4.1]
      exact ⟨_, rfl, (rd_sp t2).trans (spo_ok 3 _).1, (spo_ok 3 _).2⟩
    | none =>
      simp only
      rw [if_pos (show obB none = -1 from rfl)]
      have hw10 := t4.2.2.2.1 hk1
      simp only [acR hSt, Option.bind_some, hw10, hp6]
      -- names
      have hSn : Sh (wJ τ 14 (pe (dC D)) (lN (wdC (tkW f N e)))) := hSt
      have hRn : cRd (wJ τ 14 (pe (dC D)) (lN (wdC (tkW f N e)))) f N (tkE f N e) D := by
        obtain ⟨r1, r2, r3, r4, r5, r6, r7⟩ := t3
        refine ⟨r1, r2, r3, r4, r5, r6, fun p hp => ?_⟩
        rw [mJ_wJ, if_neg (by omega)]
        exact r7 p hp
      have un : Upd Prd σ (wJ τ 14 (pe (dC D)) (lN (wdC (tkW f N e)))) := (rd_sp t2).wJ rfl
      have hn14 : mJ (wJ τ 14 (pe (dC D)) (lN (wdC (tkW f N e)))) 14 (pe (dC D)) = lN (wdC (tkW f N e)) := by rw [mJ_wJ, if_pos ⟨rfl, rfl⟩]
      generalize wJ τ 14 (pe (dC D)) (lN (wdC (tkW f N e))) = ν at hSn hRn un hn14
      obtain ⟨υ, v1, v2, v3, v4⟩ := f39N hRn
      have hSv := v3.1.1
      simp only [acR hSn, Option.bind_some, v1, acR hSv, hp6]
      have hSw : Sh (wI υ 3 (pe (dC D)) (obB (kdAt f N (tkE f N e)))) := hSv
      have uw : Upd Prd σ (wI υ 3 (pe (dC D)) (obB (kdAt f N (tkE f N e)))) := (un.trans (rd_sp v2)).wI rfl
      have e3 : mI (wI υ 3 (pe (dC D)) (obB (kdAt f N (tkE f N e)))) 3 (pe (dC D)) = obB (kdAt f N (tkE f N e)) := by rw [mI_w, if_pos ⟨rfl, rfl⟩]
      simp only [acR hSw, Option.bind_some, hp6, e3]
      cases e2 : kdAt f N (tkE f N e) with
      | none =>
        rw [if_pos (show obB none = -1 from rfl), show (1 : Int32) = nI 1 from rfl, f25N (pl := tkS f N (tkE f N e)) (by rw [e2] at hSw; exact hSw) (by rw [mI_w, if_neg (by omega)]; exact v4.1), Option.bind_some]
        rw [e2] at uw
        exact ⟨_, rfl, uw.trans (spo_ok 1 _).1, (spo_ok 1 _).2⟩
      | some k =>
        have hk3 := kd_le e2
        rw [e2] at hSw uw e3
        rw [if_neg (show ¬ obB (some k) = -1 from obB_p (by omega))]
        simp only [← kHas_ok.2.1, ← kDies_ok.2.1, show (99 : Int32) = nI 99 from rfl, show (100 : Int32) = nI 100 from rfl]
        have g8 : mI (wI υ 3 (pe (dC D)) (obB (some k))) 1 8 = nI (tkE f N (tkE f N e)) := by rw [mI_w, if_neg (by omega)]; exact v4.2.1
        have hBw := rdB_rd uw h1
        have e3 : mI (wI υ 3 (pe (dC D)) (obB (some k))) 3 (pe (dC D)) = nI k := e3
        have hcell : ∀ a i, 2 ≤ a → a ≤ 12 → ¬ (a = 3 ∧ i = pe (dC D)) → mI (wI υ 3 (pe (dC D)) (obB (some k))) a i = mI ν a i := fun a i a1 a2 a3 => by
          rw [mI_w, if_neg a3, sp_I v2 i (by omega)]
        have hnames : ∀ p, mJ (wI υ 3 (pe (dC D)) (obB (some k))) 14 p = mJ ν 14 p := fun p => sp_J v2 p (by omega)
        have h13 : mI (wI υ 3 (pe (dC D)) (obB (some k))) 1 3 = 0 := by rw [mI_w, if_neg (by omega)]; exact v3.2.2.2.1
        have h111 : mI (wI υ 3 (pe (dC D)) (obB (some k))) 1 11 = bo (dB D) := by rw [mI_w, if_neg (by omega)]; exact v3.2.2.2.2.1
        generalize wI υ 3 (pe (dC D)) (obB (some k)) = ω at hSw uw e3 g8 hBw hcell hnames h13 h111
        rcases cpt hBw b2.2 g8 kHas_ok.1 (show 99 < 2 ^ 31 by decide) with ⟨x, ρ, q1, p1, p2, p3⟩ | ⟨x, ρ, ψ, q1, p1, p2, p3, p4, p5⟩ | ⟨y, ρ, ψ, q1, p1, p2, p3, p4, p5, p6, p7, p8, p9⟩
        · simp only [q1, acR hSw, Option.bind_some, p1]
          exact ⟨ρ, rfl, uw.trans p2, p3⟩
        · have hSr := p2.sh hSw
          simp only [q1, acR hSw, Option.bind_some, p1, acR hSr, p3, bo_0]
          exact ⟨ψ, rfl, uw.trans p4, p5⟩
        · have hSr := p2.sh hSw
          have hSp := p4.sh hSw
          have up := uw.trans (rd_sp p4)
          simp only [q1, acR hSw, Option.bind_some, p1, acR hSr, p3, bo_0, acR hSp, p6, hp6]
          have hS4 : Sh (wI ψ 4 (pe (dC D)) (nI y.2)) := hSp
          have u4 : Upd Prd σ (wI ψ 4 (pe (dC D)) (nI y.2)) := up.wI rfl
          have hB4 := rdB_rd u4 h1
          have g84 : mI (wI ψ 4 (pe (dC D)) (nI y.2)) 1 8 = nI y.1 := by rw [mI_w, if_neg (by omega)]; exact p5
          rcases cpt hB4 p8 g84 kDies_ok.1 (show 100 < 2 ^ 31 by decide) with ⟨x, α, s1, s2, s3, s4⟩ | ⟨x, α, β, s1, s2, s3, s4, s5, s6⟩ | ⟨z, α, β, s1, s2, s3, s4, s5, s6, s7, s8, s9, s10⟩
          · simp only [s1, acR hS4, Option.bind_some, s2]
            exact ⟨α, rfl, u4.trans s3, s4⟩
          · have hSa := s3.sh hS4
            simp only [s1, acR hS4, Option.bind_some, s2, acR hSa, s4, bo_0]
            exact ⟨β, rfl, u4.trans s5, s6⟩
          · have hSa := s3.sh hS4
            have hSb := s5.sh hS4
            have ub := u4.trans (rd_sp s5)
            have hS5 : Sh (wI β 5 (pe (dC D)) (nI z.2)) := hSb
            have e22 : mI (wI β 5 (pe (dC D)) (nI z.2)) 2 2 = nI (pe (dC D)) := by
              rw [mI_w, if_neg (by omega), sp_I s5 2 (by omega), mI_w, if_neg (by omega), sp_I p4 2 (by omega), hcell 2 2 (by omega) (by omega) (by omega)]
              exact hRn.2.2.2.2.2.1.1.2.2.1
            have u5 : Upd Prd σ (wI (wI β 5 (pe (dC D)) (nI z.2)) 2 2 (nI (pe (dC D) + 1))) := (ub.wI rfl).wI rfl
            simp only [s1, acR hS4, Option.bind_some, s2, acR hSa, s4, bo_0, acR hSb, s7, hp6, acR hS5, e22, nI_1]
            refine ⟨_, rfl, u5, rdB_rd u5 h1, s9, ?_, ?_, ?_, ?_, fun p hp => ?_⟩
            · rw [mI_w, if_neg (by omega), mI_w, if_neg (by omega)]; exact s6
            · rw [mI_w, if_neg (by omega), mI_w, if_neg (by omega), s5.2.1 1 3 rfl, mI_w, if_neg (by omega), p4.2.1 1 3 rfl]; exact h13
            · rw [mI_w, if_neg (by omega), mI_w, if_neg (by omega), s5.2.1 1 11 rfl, mI_w, if_neg (by omega), p4.2.1 1 11 rfl]; exact h111
            · refine cC_per hRn.2.2.2.2.2.1 (fun a i a1 a2 a3 => ?_) ?_ ?_ ?_ ?_
              · rw [mI_w, if_neg (by omega), mI_w, if_neg (by omega), sp_I s5 i (by omega), mI_w, if_neg (by omega), sp_I p4 i (by omega), hcell a i a1 a2 (by omega)]
              · rw [mI_w, if_pos ⟨rfl, rfl⟩]
              · rw [mI_w, if_neg (by omega), mI_w, if_neg (by omega), sp_I s5 _ (by omega), mI_w, if_neg (by omega), sp_I p4 _ (by omega)]; exact e3
              · rw [mI_w, if_neg (by omega), mI_w, if_neg (by omega), sp_I s5 _ (by omega), mI_w, if_pos ⟨rfl, rfl⟩]
              · rw [mI_w, if_neg (by omega), mI_w, if_pos ⟨rfl, rfl⟩]
            · have hp : p < pe (dC D) + 1 := hp
              show mJ β 14 p = lN (wdC (upN (dN D) (pe (dC D)) (tkW f N e) p))
              rw [sp_J s5 p (by omega)]
              show mJ ψ 14 p = _
              rw [sp_J p4 p (by omega), hnames]
              unfold upN
              by_cases ep : p = pe (dC D)
              · rw [if_pos ep, ep]; exact hn14
              · rw [if_neg ep]; exact hRn.2.2.2.2.2.2 p (by omega)
/-- readNear -/
theorem c40 (h : cRd σ f N e D) (hO : OkD D) : cRs σ f N (f40 1 σ) (lNear f N D e) := by
  obtain ⟨h1, h2, h3, h4, h5, h6, h7⟩ := id h
  have hS := h1.1
  have hp6 := hO.1.1
  have b1 := tkE_b (f := f) h2
  have b2 := tkE_b (f := f) b1.2
  have h35 := f35N h hO
  unfold f40 f40_45 lNear
  simp only [acR hS, Option.bind_some]
  cases e1 : pAt f N D e with
  | inl x =>
    rw [e1] at h35
    obtain ⟨τ, t1, t2, t3⟩ := h35
    rw [t1, Option.bind_some]
    exact ⟨τ, rfl, t2, t3⟩
  | inr p =>
    rw [e1] at h35
    obtain ⟨hp, τ, t1, t2, t3, t4⟩ := h35
    have hSt := t3.1.1
    have h35b := f35N t3 hO
    rw [t1, Option.bind_some, if_neg (obB_p (by omega))]
    simp only [acR hSt, Option.bind_some]
    cases e2 : pAt f N D (tkE f N e) with
    | inl x =>
      rw [e2] at h35b
      obtain ⟨υ, v1, v2, v3⟩ := h35b
      rw [v1, Option.bind_some]
      exact ⟨υ, rfl, t2.trans v2, v3⟩
    | inr q =>
      rw [e2] at h35b
      obtain ⟨hq, υ, v1, v2, v3, v4⟩ := h35b
      have hSv := v3.1.1
      have uv := t2.trans v2
      have hn64 : nr (dC D) p < 64 := hO.1.nr64 (by omega)
      have hq64 : nr (dC D) q < 64 := hO.1.nr64 (by omega)
      have c6p : mI υ 6 p = nI (nr (dC D) p) := (v3.2.2.2.2.2.1.2.2.1 p (by omega)).1
      have c6q : mI υ 6 q = nI (nr (dC D) q) := (v3.2.2.2.2.2.1.2.2.1 q (by omega)).1
      rw [v1, Option.bind_some, if_neg (obB_p (by omega))]
      simp only [show (nI q = nI p) = (q = p) from propext (nI_eq (by omega) (by omega))]
      have hfl : cRs σ f N ((f25 1 3 υ).bind fun y1 => rZ y1.1 y1.2) (.inl (3, tkS f N (tkE f N e))) := by
        rw [show (3 : Int32) = nI 3 from rfl, f25N hSv v4.1, Option.bind_some]
        exact ⟨_, rfl, uv.trans (spo_ok 3 _).1, (spo_ok 3 _).2⟩
      by_cases e3 : q = p
      · rw [if_pos e3, if_pos (Or.inl e3)]
        simp only [acR hSv, Option.bind_some]
        exact hfl
      · rw [if_neg e3]
        simp only [acR hSv, Option.bind_some, show p < 6 by omega, c6p, f124N hn64 (show q < 6 by omega), bo_0]
        cases e4 : tb (nr (dC D) p) q
        · rw [if_pos rfl, if_neg (fun h => h.elim e3 (fun h => by cases h)), orN _ hn64 q (by omega)]
          have hSw : Sh (wI υ 6 p (nI (nr (dC D) p ||| 2 ^ q))) := hSv
          have e6 : mI (wI υ 6 p (nI (nr (dC D) p ||| 2 ^ q))) 6 q = nI (nr (dC D) q) := by rw [mI_w, if_neg (by omega)]; exact c6q
          have hSx : Sh (wI (wI υ 6 p (nI (nr (dC D) p ||| 2 ^ q))) 6 q (nI (nr (dC D) q ||| 2 ^ p))) := hSv
          have e23 : mI (wI (wI υ 6 p (nI (nr (dC D) p ||| 2 ^ q))) 6 q (nI (nr (dC D) q ||| 2 ^ p))) 2 3 = nI (nNe (dC D)) := by rw [mI_w, if_neg (by omega), mI_w, if_neg (by omega)]; exact v3.2.2.2.2.2.1.1.2.2.2.1
          have u5 : Upd Prd σ (wI (wI (wI υ 6 p (nI (nr (dC D) p ||| 2 ^ q))) 6 q (nI (nr (dC D) q ||| 2 ^ p))) 2 3 (nI (nNe (dC D) + 1))) := ((uv.wI rfl).wI rfl).wI rfl
          simp only [acR hSw, Option.bind_some, show q < 6 by omega, e6, orN _ hq64 p (show p < 6 by omega), acR hSx, e23, nI_1]
          refine ⟨_, rfl, u5, rdB_rd u5 h1, b2.2, ?_, ?_, ?_, ?_, fun i hi => v3.2.2.2.2.2.2 i hi⟩
          · rw [mI_w, if_neg (by omega), mI_w, if_neg (by omega), mI_w, if_neg (by omega)]; exact v3.2.2.1
          · rw [mI_w, if_neg (by omega), mI_w, if_neg (by omega), mI_w, if_neg (by omega)]; exact v3.2.2.2.1
          · rw [mI_w, if_neg (by omega), mI_w, if_neg (by omega), mI_w, if_neg (by omega)]; exact v3.2.2.2.2.1
          · refine cC_near v3.2.2.2.2.2.1 (fun h => e3 h.symm) (fun a i a1 a2 a3 => ?_) ?_ ?_ ?_
            · rw [mI_w, if_neg (by omega), mI_w, if_neg (by omega), mI_w, if_neg (by omega)]
            · rw [mI_w, if_pos ⟨rfl, rfl⟩]
            · rw [mI_w, if_neg (by omega), mI_w, if_neg (by omega), mI_w, if_pos ⟨rfl, rfl⟩]
            · rw [mI_w, if_neg (by omega), mI_w, if_pos ⟨rfl, rfl⟩]
        · rw [if_neg (by simp), if_pos (Or.inr rfl)]
          exact hfl
end CLASS
