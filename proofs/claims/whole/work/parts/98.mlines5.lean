/-! THE TEXT: the reference's lines: asked, heard, went -/
section REF
variable {σ : xM} {c : Nat} {f : Nat → Int32} {N e : Nat} {D D' : Drf} {x : Nat × Nat} {C : Cty}
/-- readAsked -/
theorem m179 (h : mRd σ c f N e D) (hO : OkD D) : mRs σ c f N (f179 102 σ) (if dB D then (if nAs (dC D) < 12 then lAsk f N D (tkE f N e) else .inl (5, tkS f N e)) else .inl (6, tkS f N e)) := by
  have hR := h.1
  have hc := hR.2.1.1
  have hp6 := hO.1.1
  have h99 := hO.1.2.2.2.2.2.2.2.2.2.1
  unfold f179
  simp only [acGr hR, acT0 hR.2.1, acM hR.1, Option.bind_some, h.2.2.2.2.2.1.1.2.2.2.2.1, show (12 : Int32) = nI 12 from rfl]
  rcases m171 h hO (a := nAs (dC D)) (b := 12) hO.2.2.2.1 (by decide) (fun hb => by have := (hO.2.2.2.2.2 hb).2.2.1; omega) with ⟨x, τ, e1, t1, t2, t3⟩ | ⟨hb, hlt, τ, t1, t2, t3⟩
  · obtain ⟨υ, v1, v2, v3⟩ := o178 t3
    rw [t1, Option.bind_some, lb_eq e1]
    simp only [acM t3.1.1, Option.bind_some, v1, acGr v3.1, acT0 v3.1.2.1, acM v3.1.1, o169 v3, v3.2.1]
    exact ⟨υ, rfl, (mr_fl t2).trans (mr_15 v2), v3⟩
  · rw [t1, Option.bind_some, hb, if_pos rfl, if_pos hlt]
    unfold lAsk
    simp only [acM t3.1.1, Option.bind_some]
    rcases m178 t3 hO with ⟨x, v, υ, e1, v1, v2, v3⟩ | ⟨y, υ, e1, v1, v2, v3, v4⟩
    · rw [e1, v1, Option.bind_some]
      simp only [acGr v3.1, acT0 v3.1.2.1, acM v3.1.1, Option.bind_some, o169 v3, v3.2.1]
      exact ⟨υ, rfl, (mr_fl t2).trans v2, v3⟩
    · obtain ⟨p1, p2, p3, p4, p5, p6⟩ := lPair_ok t3.2.2.1 e1
      have hx := v3.2.2.2.2.2.1
      have ehr : mI υ c 0 = nI (hr0 (dC D)) := hx.1.1.trans (dh_t hb)
      rw [e1, v1, Option.bind_some]
      simp only [acGr v3.1, acT0 v3.1.2.1, acM v3.1.1, Option.bind_some, ehr]
      rcases mpt v3 hp6 kAt_ok.1 kAt_ok.2.2 (show hr0 (dC D) < 2 ^ 31 by omega) with ⟨x, ψ, e2, q1, q2, q3⟩ | ⟨z, ψ, e2, q1, q2, q3, q4⟩
      · rw [e2, q1, Option.bind_some]
        simp only [acM q3.1.1, Option.bind_some, q3.2.1]
        exact ⟨ψ, rfl, (mr_fl t2).trans (v2.trans (mr_fl q2)), q3⟩
      · have hRp := q3.1
        have hx3 := q3.2.2.2.2.2.1
        have g15 : mI ψ 102 15 = nI y.2.2 := (q2.2.1 102 15 rfl).trans v4
        have hR1 : hasR (wI ψ (c + 6) (6 * y.2.1 + y.2.2) (nI z.2)) c := hRp
        have e24 : mI (wI ψ (c + 6) (6 * y.2.1 + y.2.2) (nI z.2)) c 4 = nI (nAs (dC D)) := by rw [mI_w, if_neg (by omega)]; exact hx3.1.2.2.2.2.1
        rw [e2, q1, Option.bind_some]
        simp only [acM hRp.1, Option.bind_some]
        rw [if_neg (h9n q3)]
        simp only [acGr hRp, acT0 hRp.2.1, acTw hRp.2.1, Option.bind_some, g15, show (6 : Int32) = nI 6 from rfl, pk_mul, nI_add, show 6 * y.2.1 + y.2.2 < 36 by omega]
        simp only [acGr hR1, acT0 hR1.2.1, Option.bind_some, e24, nI_1]
        have uc : Upd (Pce c) ψ (wI (wI ψ (c + 6) (6 * y.2.1 + y.2.2) (nI z.2)) c 4 (nI (nAs (dC D) + 1))) := (Upd.refl.wI (Pce_yes _ (by omega))).wI (Pce_yes _ (by omega))
        refine ⟨_, rfl, ((mr_fl t2).trans (v2.trans (mr_fl q2))).trans (mr_ce uc), mRd_cell (D' := (sAsk (dC D) y.2.1 y.2.2 z.2, dN D, dB D)) (hh := dh D) q3 uc (dh_eq rfl (hr_ask (dC D) _ _ _)) ?_ (fun i hi => q3.2.2.2.2.2.2 i hi)⟩
        show mCx _ c (sAsk (dC D) y.2.1 y.2.2 z.2) (dh D)
        refine mX_ask hx3 hc (show y.2.1 < 6 by omega) (show y.2.2 < 6 by omega) (fun a i a1 a2 a3 => ?_) ?_ ?_
        · rw [mI_w, if_neg (by omega), mI_w, if_neg (by omega)]
        · rw [mI_w, if_pos ⟨rfl, rfl⟩]
        · rw [mI_w, if_neg (by omega), mI_w, if_pos ⟨rfl, rfl⟩]
/-- readHeard -/
theorem m180 (h : mRd σ c f N e D) (hO : OkD D) : mRs σ c f N (f180 102 σ) (if dB D then (if nHe (dC D) < 3 then lHea f N D (tkE f N e) else .inl (5, tkS f N e)) else .inl (6, tkS f N e)) := by
  have hR := h.1
  have hc := hR.2.1.1
  have hp6 := hO.1.1
  have h99 := hO.1.2.2.2.2.2.2.2.2.2.1
  have hn3 := hO.1.2.2.2.2.2.2.2.2.2.2.2.1
  unfold f180
  simp only [acGr hR, acT0 hR.2.1, acM hR.1, Option.bind_some, h.2.2.2.2.2.1.1.2.2.2.2.2.1, show (3 : Int32) = nI 3 from rfl]
  rcases m171 h hO (a := nHe (dC D)) (b := 3) hn3 (by decide) (fun hb => by have := (hO.2.2.2.2.2 hb).2.2.2; omega) with ⟨x, τ, e1, t1, t2, t3⟩ | ⟨hb, hlt, τ, t1, t2, t3⟩
  · obtain ⟨υ, v1, v2, v3⟩ := o178 t3
    rw [t1, Option.bind_some, lb_eq e1]
    simp only [acM t3.1.1, Option.bind_some, v1, acGr v3.1, acT0 v3.1.2.1, acM v3.1.1, o169 v3, v3.2.1]
    exact ⟨υ, rfl, (mr_fl t2).trans (mr_15 v2), v3⟩
  · rw [t1, Option.bind_some, hb, if_pos rfl, if_pos hlt]
    unfold lHea
    simp only [acM t3.1.1, Option.bind_some]
    rcases m178 t3 hO with ⟨x, v, υ, e1, v1, v2, v3⟩ | ⟨y, υ, e1, v1, v2, v3, v4⟩
    · rw [e1, v1, Option.bind_some]
      simp only [acGr v3.1, acT0 v3.1.2.1, acM v3.1.1, Option.bind_some, o169 v3, v3.2.1]
      exact ⟨υ, rfl, (mr_fl t2).trans v2, v3⟩
    · obtain ⟨p1, p2, p3, p4, p5, p6⟩ := lPair_ok t3.2.2.1 e1
      have hx := v3.2.2.2.2.2.1
      have ehr : mI υ c 0 = nI (hr0 (dC D)) := hx.1.1.trans (dh_t hb)
      rw [e1, v1, Option.bind_some]
      simp only [acGr v3.1, acT0 v3.1.2.1, acM v3.1.1, Option.bind_some, ehr]
      rcases mpt v3 hp6 kAt_ok.1 kAt_ok.2.2 (show hr0 (dC D) < 2 ^ 31 by omega) with ⟨x, ψ, e2, q1, q2, q3⟩ | ⟨z, ψ, e2, q1, q2, q3, q4⟩
      · rw [e2, q1, Option.bind_some]
        simp only [acM q3.1.1, Option.bind_some, o169 q3, q3.2.1]
        exact ⟨ψ, rfl, (mr_fl t2).trans (v2.trans (mr_fl q2)), q3⟩
      · rw [e2, q1, Option.bind_some]
        simp only [acM q3.1.1, Option.bind_some]
        rcases mpt q3 hp6 kGive_ok.1 kGive_ok.2.2 (show 3 < 2 ^ 31 by decide) with ⟨x, ξ, e3, s1, s2, s3⟩ | ⟨u, ξ, e3, s1, s2, s3, s4⟩
        · rw [e3, s1, Option.bind_some]
          simp only [acM s3.1.1, Option.bind_some, s3.2.1]
          exact ⟨ξ, rfl, (mr_fl t2).trans (v2.trans (mr_fl (q2.trans s2))), s3⟩
        · have hRp := s3.1
          have hx3 := s3.2.2.2.2.2.1
          have e5 : mI ξ c 5 = nI (nHe (dC D)) := hx3.1.2.2.2.2.2.1
          have g15 : mI ξ 102 15 = nI y.2.2 := (s2.2.1 102 15 rfl).trans ((q2.2.1 102 15 rfl).trans v4)
          have hR1 : hasR (wI ξ (c + 6) (6 * y.2.1 + y.2.2) (nI z.2)) c := hRp
          have e51 : mI (wI ξ (c + 6) (6 * y.2.1 + y.2.2) (nI z.2)) c 5 = nI (nHe (dC D)) := by rw [mI_w, if_neg (by omega)]; exact e5
          have hR2 : hasR (wI (wI ξ (c + 6) (6 * y.2.1 + y.2.2) (nI z.2)) (c + 7) (nHe (dC D)) (nI y.2.1)) c := hRp
          have e52 : mI (wI (wI ξ (c + 6) (6 * y.2.1 + y.2.2) (nI z.2)) (c + 7) (nHe (dC D)) (nI y.2.1)) c 5 = nI (nHe (dC D)) := by rw [mI_w, if_neg (by omega)]; exact e51
          have g52 : mI (wI (wI ξ (c + 6) (6 * y.2.1 + y.2.2) (nI z.2)) (c + 7) (nHe (dC D)) (nI y.2.1)) 102 15 = nI y.2.2 := by rw [mI_w, if_neg (by omega), mI_w, if_neg (by omega)]; exact g15
          have hR3 : hasR (wI (wI (wI ξ (c + 6) (6 * y.2.1 + y.2.2) (nI z.2)) (c + 7) (nHe (dC D)) (nI y.2.1)) (c + 8) (nHe (dC D)) (nI y.2.2)) c := hRp
          have e53 : mI (wI (wI (wI ξ (c + 6) (6 * y.2.1 + y.2.2) (nI z.2)) (c + 7) (nHe (dC D)) (nI y.2.1)) (c + 8) (nHe (dC D)) (nI y.2.2)) c 5 = nI (nHe (dC D)) := by rw [mI_w, if_neg (by omega)]; exact e52
          have hR4 : hasR (wI (wI (wI (wI ξ (c + 6) (6 * y.2.1 + y.2.2) (nI z.2)) (c + 7) (nHe (dC D)) (nI y.2.1)) (c + 8) (nHe (dC D)) (nI y.2.2)) (c + 9) (nHe (dC D)) (nI u.2)) c := hRp
          have e54 : mI (wI (wI (wI (wI ξ (c + 6) (6 * y.2.1 + y.2.2) (nI z.2)) (c + 7) (nHe (dC D)) (nI y.2.1)) (c + 8) (nHe (dC D)) (nI y.2.2)) (c + 9) (nHe (dC D)) (nI u.2)) c 5 = nI (nHe (dC D)) := by rw [mI_w, if_neg (by omega)]; exact e53
          rw [e3, s1, Option.bind_some]
          simp only [acM hRp.1, Option.bind_some]
          rw [if_neg (h9n s3)]
          simp only [acGr hRp, acT0 hRp.2.1, acTw hRp.2.1, Option.bind_some, g15, show (6 : Int32) = nI 6 from rfl, pk_mul, nI_add, show 6 * y.2.1 + y.2.2 < 36 by omega]
          simp only [acGr hR1, acT0 hR1.2.1, acTw hR1.2.1, acM hR1.1, Option.bind_some, e51, hlt]
          simp only [acGr hR2, acT0 hR2.2.1, acTw hR2.2.1, acM hR2.1, Option.bind_some, e52, g52, hlt]
          simp only [acGr hR3, acT0 hR3.2.1, acTw hR3.2.1, Option.bind_some, e53, hlt]
          simp only [acGr hR4, acT0 hR4.2.1, Option.bind_some, e54, nI_1]
          have uc : Upd (Pce c) ξ (wI (wI (wI (wI (wI ξ (c + 6) (6 * y.2.1 + y.2.2) (nI z.2)) (c + 7) (nHe (dC D)) (nI y.2.1)) (c + 8) (nHe (dC D)) (nI y.2.2)) (c + 9) (nHe (dC D)) (nI u.2)) c 5 (nI (nHe (dC D) + 1))) := ((((Upd.refl.wI (Pce_yes _ (by omega))).wI (Pce_yes _ (by omega))).wI (Pce_yes _ (by omega))).wI (Pce_yes _ (by omega))).wI (Pce_yes _ (by omega))
          refine ⟨_, rfl, ((mr_fl t2).trans (v2.trans (mr_fl (q2.trans s2)))).trans (mr_ce uc), mRd_cell (D' := (sHea (dC D) y.2.1 y.2.2 z.2 u.2, dN D, dB D)) (hh := dh D) s3 uc (dh_eq rfl (hr_hea (dC D) _ _ _ _)) ?_ (fun i hi => s3.2.2.2.2.2.2 i hi)⟩
          show mCx _ c (sHea (dC D) y.2.1 y.2.2 z.2 u.2) (dh D)
          refine mX_hea hx3 hc (show y.2.1 < 6 by omega) (show y.2.2 < 6 by omega) (fun a i a1 a2 a3 => ?_) ?_ ?_ ?_ ?_ ?_
          · rw [mI_w, if_neg (by omega), mI_w, if_neg (by omega), mI_w, if_neg (by omega), mI_w, if_neg (by omega), mI_w, if_neg (by omega)]
          · rw [mI_w, if_pos ⟨rfl, rfl⟩]
          · rw [mI_w, if_neg (by omega), mI_w, if_neg (by omega), mI_w, if_neg (by omega), mI_w, if_neg (by omega), mI_w, if_pos ⟨rfl, rfl⟩]
          · rw [mI_w, if_neg (by omega), mI_w, if_neg (by omega), mI_w, if_neg (by omega), mI_w, if_pos ⟨rfl, rfl⟩]
          · rw [mI_w, if_neg (by omega), mI_w, if_neg (by omega), mI_w, if_pos ⟨rfl, rfl⟩]
          · rw [mI_w, if_neg (by omega), mI_w, if_pos ⟨rfl, rfl⟩]
end REF
