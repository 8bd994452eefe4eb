/-! THE TEXT: the reference's lines: person -/
/-- behind a new name -/
def lKd (f : Nat → Int32) (N : Nat) (D : Drf) (w : List Nat) (e : Nat) : Sum (Nat × Nat) (Nat × Drf) := match kdAt f N e with
  | none => .inl (1, tkS f N e)
  | some k => match pt f N kHas 99 (tkE f N e) with
    | .inl x => .inl x
    | .inr y => match pt f N kDies 100 y.1 with
      | .inl x => .inl x
      | .inr z => .inr (z.1, (sPer (dC D) k y.2 z.2, upN (dN D) (pe (dC D)) w, dB D))
theorem lPer_eq (f : Nat → Int32) (N : Nat) (D : Drf) (e : Nat) : lPer f N D e = if nmAt f N e then (match bea D (tkW f N e) with
  | some _ => .inl (3, tkS f N e)
  | none => lKd f N D (tkW f N e) (tkE f N e)) else .inl (1, tkS f N e) := by
  unfold lPer lKd
  cases nmAt f N e
  · rfl
  · rw [if_pos rfl, if_pos rfl]
    cases bea D (tkW f N e) with
    | some p => rfl
    | none =>
      simp only
      cases kdAt f N (tkE f N e) with
      | none => rfl
      | some k =>
        simp only
        cases pt f N kHas 99 (tkE f N (tkE f N e)) with
        | inl x => rfl
        | inr y =>
          simp only
          cases pt f N kDies 100 y.1 <;> rfl
theorem hr_per (C : Cty) (k x d : Nat) : hr0 (sPer C k x d) = hr0 C := rfl
theorem hr_near (C : Cty) (p q : Nat) : hr0 (sNear C p q) = hr0 C := rfl
theorem hr_ask (C : Cty) (p q x : Nat) : hr0 (sAsk C p q x) = hr0 C := rfl
theorem hr_hea (C : Cty) (p q x g : Nat) : hr0 (sHea C p q x g) = hr0 C := rfl
theorem hr_wen (C : Cty) (p : Nat) (w : Option Nat) : hr0 (sWen C p w) = hr0 C := rfl
theorem pe_per (C : Cty) (k x d : Nat) : pe (sPer C k x d) = pe C + 1 := rfl
section REF
variable {σ : xM} {c : Nat} {f : Nat → Int32} {N e : Nat} {D D' : Drf} {x : Nat × Nat}
theorem mRs_up {τ : xM} {o : Option xM} {r : Sum (Nat × Nat) (Nat × Drf)} (hu : Upd (Pmr c) σ τ) (h : mRs τ c f N o r) : mRs σ c f N o r := by
  cases r with
  | inl x => obtain ⟨υ, a, b, d⟩ := h; exact ⟨υ, a, hu.trans b, d⟩
  | inr y => obtain ⟨υ, a, b, d⟩ := h; exact ⟨υ, a, hu.trans b, d⟩
theorem o176_118 (h : mOv σ c x) (l1 : Int64) (l3 : Int32) : f176_118 102 l1 l3 σ = some σ := by
  unfold f176_118
  simp only [acM h.1.1, Option.bind_some, o165 h, o169 h, h.2.1]
  rfl
theorem o176_45 (h : mOv σ c x) : f176_45 102 σ = some σ := by
  unfold f176_45 f176_107
  simp only [acM h.1.1, Option.bind_some, o165 h, o167 h, bo_0, if_true, o166 h, o176_118 h]
theorem o176_25 (h : mOv σ c x) : f176_25 102 σ = some σ := by
  obtain ⟨h1, h2, h3, h4, n, h5, h6⟩ := id h
  obtain ⟨o, o1, -⟩ := f147G h1 h5 h6 (mJ σ 102 14)
  unfold f176_25
  simp only [acM h1.1, acGr h1, acT0 h1.2.1, Option.bind_some, o1, o166 h, o176_45 h]
  split <;> rfl
/-- the kind, and what stands behind it -/
theorem m176_107 (h : mRd σ c f N e D) (hO : OkD D) (hp6 : pe (dC D) < 6) (w : List Nat) : mRs σ c f N (f176_107 102 (lN (wdM w)) (obB (kdAt f N e)) σ) (lKd f N D w e) := by
  have hR := h.1
  have hc := hR.2.1.1
  unfold f176_107 lKd
  cases e0 : kdAt f N e with
  | none =>
    obtain ⟨a1, a2, a3⟩ := m166 h hO.1.1 1
    rw [if_pos (show obB none = -1 from rfl)]
    simp only [acM hR.1, Option.bind_some, show (1 : Int32) = nI 1 from rfl, a1, o176_118 a3]
    exact ⟨_, rfl, mr_fl a2, a3⟩
  | some k =>
    have hk3 := kd_le e0
    rw [if_neg (show ¬ obB (some k) = -1 from obB_p (by omega))]
    obtain ⟨τ, t1, t2, t3⟩ := m165 h
    unfold f176_118
    simp only [acM hR.1, Option.bind_some, t1, acM t3.1.1, show (99 : Int32) = nI 99 from rfl, show (100 : Int32) = nI 100 from rfl]
    rcases mpt t3 hO.1.1 kHas_ok.1 kHas_ok.2.2 (show 99 < 2 ^ 31 by decide) with ⟨x, υ, e1, v1, v2, v3⟩ | ⟨y, υ, e1, v1, v2, v3, v4⟩
    · rw [e1, v1, Option.bind_some]
      simp only [acM v3.1.1, Option.bind_some, o169 v3, v3.2.1]
      exact ⟨υ, rfl, mr_fl (t2.trans v2), v3⟩
    · rw [e1, v1, Option.bind_some]
      simp only [acM v3.1.1, Option.bind_some]
      rcases mpt v3 hO.1.1 kDies_ok.1 kDies_ok.2.2 (show 100 < 2 ^ 31 by decide) with ⟨x, ψ, e2, p1, p2, p3⟩ | ⟨z, ψ, e2, p1, p2, p3, p4⟩
      · rw [e2, p1, Option.bind_some]
        simp only [acM p3.1.1, Option.bind_some, p3.2.1]
        exact ⟨ψ, rfl, mr_fl (t2.trans (v2.trans p2)), p3⟩
      · have hRp := p3.1
        have hx := p3.2.2.2.2.2.1
        rw [e2, p1, Option.bind_some]
        simp only [acM hRp.1, Option.bind_some]
        rw [if_neg (h9n p3)]
        have hR1 : hasR (wJ ψ (c + 10) (pe (dC D)) (lN (wdM w))) c := hRp
        have hR2 : hasR (wI (wJ ψ (c + 10) (pe (dC D)) (lN (wdM w))) (c + 1) (pe (dC D)) (obB (some k))) c := hRp
        have hR3 : hasR (wI (wI (wJ ψ (c + 10) (pe (dC D)) (lN (wdM w))) (c + 1) (pe (dC D)) (obB (some k))) (c + 2) (pe (dC D)) (nI y.2)) c := hRp
        have hR4 : hasR (wI (wI (wI (wJ ψ (c + 10) (pe (dC D)) (lN (wdM w))) (c + 1) (pe (dC D)) (obB (some k))) (c + 2) (pe (dC D)) (nI y.2)) (c + 3) (pe (dC D)) (nI z.2)) c := hRp
        have e22 : mI (wI (wI (wI (wJ ψ (c + 10) (pe (dC D)) (lN (wdM w))) (c + 1) (pe (dC D)) (obB (some k))) (c + 2) (pe (dC D)) (nI y.2)) (c + 3) (pe (dC D)) (nI z.2)) c 2 = nI (pe (dC D)) := by
          rw [mI_w, if_neg (by omega), mI_w, if_neg (by omega), mI_w, if_neg (by omega)]
          exact hx.1.2.2.1
        simp only [acGr hRp, acT0 hRp.2.1, Option.bind_some, hx.1.2.2.1, acTw hRp.2.1, hp6]
        simp only [acGr hR1, acT0 hR1.2.1, Option.bind_some, acTw hR1.2.1, hp6]
        simp only [acGr hR2, acT0 hR2.2.1, Option.bind_some, acTw hR2.2.1, hp6]
        simp only [acGr hR3, acT0 hR3.2.1, Option.bind_some, acTw hR3.2.1, hp6]
        simp only [acGr hR4, acT0 hR4.2.1, Option.bind_some, e22, nI_1]
        have uc : Upd (Pce c) ψ (wI (wI (wI (wI (wJ ψ (c + 10) (pe (dC D)) (lN (wdM w))) (c + 1) (pe (dC D)) (obB (some k))) (c + 2) (pe (dC D)) (nI y.2)) (c + 3) (pe (dC D)) (nI z.2)) c 2 (nI (pe (dC D) + 1))) := ((((Upd.refl.wJ (Pce_yes _ (by omega))).wI (Pce_yes _ (by omega))).wI (Pce_yes _ (by omega))).wI (Pce_yes _ (by omega))).wI (Pce_yes _ (by omega))
        refine ⟨_, rfl, (mr_fl (t2.trans (v2.trans p2))).trans (mr_ce uc), mRd_cell (D' := (sPer (dC D) k y.2 z.2, upN (dN D) (pe (dC D)) w, dB D)) (hh := dh D) p3 uc (dh_eq rfl (hr_per (dC D) k y.2 z.2)) ?_ (fun p hp => ?_)⟩
        · show mCx _ c (sPer (dC D) k y.2 z.2) (dh D)
          refine mX_per hx hc (fun a i a1 a2 a3 => ?_) ?_ ?_ ?_ ?_
          · rw [mI_w, if_neg (by omega), mI_w, if_neg (by omega), mI_w, if_neg (by omega), mI_w, if_neg (by omega)]
            rfl
          · rw [mI_w, if_pos ⟨rfl, rfl⟩]
          · rw [mI_w, if_neg (by omega), mI_w, if_neg (by omega), mI_w, if_neg (by omega), mI_w, if_pos ⟨rfl, rfl⟩]
            rfl
          · rw [mI_w, if_neg (by omega), mI_w, if_neg (by omega), mI_w, if_pos ⟨rfl, rfl⟩]
          · rw [mI_w, if_neg (by omega), mI_w, if_pos ⟨rfl, rfl⟩]
        · have hp : p < pe (dC D) + 1 := (pe_per (dC D) k y.2 z.2) ▸ hp
          show mJ (wJ ψ (c + 10) (pe (dC D)) (lN (wdM w))) (c + 10) p = lN (wdM (upN (dN D) (pe (dC D)) w p))
          rw [mJ_wJ]
          unfold upN
          by_cases ep : p = pe (dC D)
          · rw [if_pos ⟨rfl, ep⟩, if_pos ep]
          · rw [if_neg (fun h => ep h.2), if_neg ep]
            exact p3.2.2.2.2.2.2 p (by omega)
/-- readPerson -/
theorem m176 (h : mRd σ c f N e D) (hO : OkD D) : mRs σ c f N (f176 102 σ) (if dB D then (if pe (dC D) < 6 then lPer f N D (tkE f N e) else .inl (5, tkS f N e)) else .inl (6, tkS f N e)) := by
  have hR := h.1
  have hp6 := hO.1.1
  unfold f176
  simp only [acGr hR, acT0 hR.2.1, acM hR.1, Option.bind_some, h.2.2.2.2.2.1.1.2.2.1, show (6 : Int32) = nI 6 from rfl]
  rcases m171 h hO (a := pe (dC D)) (b := 6) hp6 (by decide) (fun hb => by have := (hO.2.2.2.2.2 hb).1; omega) with ⟨x, τ, e1, t1, t2, t3⟩ | ⟨hb, hlt, τ, t1, t2, t3⟩
  · rw [t1, Option.bind_some]
    simp only [acM t3.1.1, Option.bind_some, o170 t3, bo_0, if_true, o166 t3, o176_25 t3]
    have : (if dB D = true then (if pe (dC D) < 6 then lPer f N D (tkE f N e) else .inl (5, tkS f N e)) else .inl (6, tkS f N e)) = .inl x := by
      cases hb : dB D
      · rw [hb] at e1
        have := Option.some.inj e1
        rw [← this]
        rfl
      · rw [hb, if_pos rfl] at e1
        rw [if_pos rfl]
        split at e1
        · cases e1
        · rename_i hn
          have := Option.some.inj e1
          rw [if_neg hn, ← this]
    rw [this]
    exact ⟨τ, rfl, mr_fl t2, t3⟩
  · rw [t1, Option.bind_some, hb, if_pos rfl, if_pos hlt]
    rw [lPer_eq]
    simp only [acM t3.1.1, Option.bind_some, m170 t3, bo_0]
    cases e0 : nmAt f N (tkE f N e)
    · obtain ⟨a1, a2, a3⟩ := m166 t3 hp6 1
      rw [if_pos rfl, if_neg (by simp), show (1 : Int32) = nI 1 from rfl, a1, Option.bind_some, o176_25 a3]
      exact ⟨_, rfl, mr_fl (t2.trans a2), a3⟩
    · have hk1 : tkK f N (tkE f N e) = 1 := by
        unfold nmAt at e0
        rw [Bool.and_eq_true, decide_eq_true_eq] at e0
        exact e0.1
      have h147 := m147 t3 hO hk1
      have hw14 := t3.2.2.2.1.2.2.2.1 hk1
      rw [if_neg (by simp), if_pos rfl]
      unfold f176_25
      simp only [acM t3.1.1, acGr t3.1, acT0 t3.1.2.1, Option.bind_some, h147]
      cases e2 : bea D (tkW f N (tkE f N e)) with
      | some p =>
        have hp := bea_lt e2
        obtain ⟨a1, a2, a3⟩ := m166 t3 hp6 3
        simp only
        rw [if_neg (show ¬ obB (some p) = -1 from obB_p (by omega)), show (3 : Int32) = nI 3 from rfl, a1, Option.bind_some, o176_45 a3]
        exact ⟨_, rfl, mr_fl (t2.trans a2), a3⟩
      | none =>
        simp only
        rw [if_pos (show obB none = -1 from rfl)]
        obtain ⟨υ, v1, v2, v3⟩ := m165 t3
        have e176 : f176_45 102 τ = f176_107 102 (lN (wdM (tkW f N (tkE f N e)))) (obB (kdAt f N (tkE f N (tkE f N e)))) υ := by
          unfold f176_45 kdAt
          simp only [acM t3.1.1, Option.bind_some, hw14, v1, acM v3.1.1, m167 v3 kPlain_ok.1 kPlain_ok.2.2, m167 v3 kShut_ok.1 kShut_ok.2.2, m167 v3 kWalled_ok.1 kWalled_ok.2.2, m167 v3 kDoctor_ok.1 kDoctor_ok.2.2, bo_0]
          have o0 : obB (some 0) = 0 := rfl
          have o1 : obB (some 1) = 1 := rfl
          have o2 : obB (some 2) = 2 := rfl
          have o3 : obB (some 3) = 3 := rfl
          have on : obB none = -1 := rfl
          generalize isW f N kPlain (tkE f N (tkE f N e)) = b1
          generalize isW f N kShut (tkE f N (tkE f N e)) = b2
          generalize isW f N kWalled (tkE f N (tkE f N e)) = b3
          generalize isW f N kDoctor (tkE f N (tkE f N e)) = b4
          cases b1
          · cases b2
            · cases b3
              · cases b4
                · simp only [if_true, Bool.false_eq_true, if_false, on]
                · simp only [if_true, Bool.false_eq_true, if_false, o3, Bool.true_eq_false]
              · simp only [if_true, Bool.false_eq_true, if_false, o2, Bool.true_eq_false]
            · simp only [if_true, Bool.false_eq_true, if_false, o1, Bool.true_eq_false]
          · simp only [if_true, if_false, o0, Bool.true_eq_false]
        rw [e176]
        exact mRs_up (mr_fl (t2.trans v2)) (m176_107 v3 hO hlt (tkW f N (tkE f N e)))
end REF
