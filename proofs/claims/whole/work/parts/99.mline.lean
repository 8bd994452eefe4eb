/-! THE TEXT: the reference's lines: went, a line, all lines -/
section REF
variable {σ : xM} {c : Nat} {f : Nat → Int32} {N e : Nat} {D D' : Drf} {x : Nat × Nat} {C : Cty}
theorem o181_76 (h : mOv σ c x) (a b : Int32) : f181_76 102 a b σ = some σ := by
  unfold f181_76
  simp only [acM h.1.1, Option.bind_some, o165 h, h.2.1]
  rfl
theorem o181_37 (h : mOv σ c x) (a : Int32) : f181_37 102 a σ = some σ := by
  unfold f181_37
  simp only [acM h.1.1, Option.bind_some, o165 h, o167 h, bo_0, if_true, o172 h, h.2.1, o181_76 h]
/-- readWent -/
theorem m181 (h : mRd σ c f N e D) (hO : OkD D) : mRs σ c f N (f181 102 σ) (if dB D then lWen f N D (tkE f N e) else .inl (6, tkS f N e)) := by
  have hR := h.1
  have hc := hR.2.1.1
  have hp6 := hO.1.1
  unfold f181
  simp only [acM hR.1, Option.bind_some]
  rw [show f171 102 0 1 σ = f171 102 (nI 0) (nI 1) σ from rfl]
  rcases m171 h hO (a := 0) (b := 1) (by decide) (by decide) (fun _ => by decide) with ⟨x, τ, e1, t1, t2, t3⟩ | ⟨hb, hlt, τ, t1, t2, t3⟩
  · have : (if dB D = true then lWen f N D (tkE f N e) else .inl (6, tkS f N e)) = .inl x := by
      cases hb : dB D
      · rw [hb] at e1
        have := Option.some.inj e1
        rw [← this]
        rfl
      · rw [hb, if_pos rfl, if_pos (by decide)] at e1
        cases e1
    rw [t1, Option.bind_some, this]
    simp only [acM t3.1.1, Option.bind_some, o172 t3, t3.2.1, if_true, o181_37 t3]
    exact ⟨τ, rfl, mr_fl t2, t3⟩
  · rw [t1, Option.bind_some, hb, if_pos rfl]
    unfold lWen
    simp only [acM t3.1.1, Option.bind_some]
    rcases m172 t3 hO with ⟨x, υ, e1, v1, v2, v3⟩ | ⟨p, e1, hp, v1⟩
    · rw [e1, v1, Option.bind_some]
      simp only [acM v3.1.1, Option.bind_some, v3.2.1, if_true, o181_37 v3]
      exact ⟨υ, rfl, mr_fl (t2.trans v2), v3⟩
    · have hx := t3.2.2.2.2.2.1
      have c5 : mI τ (c + 5) p = wM (wn (dC D) p) := (hx.2.2.1 p (by omega)).2
      have hw1 : (wM (wn (dC D) p) = -1) = ((wn (dC D) p).isSome = false) := by
        rw [wM_m1 hO.1 p]
        apply propext
        cases wn (dC D) p <;> simp
      rw [e1, v1, Option.bind_some]
      simp only [acM t3.1.1, Option.bind_some]
      rw [if_neg (h9n t3)]
      simp only [acGr t3.1, acT0 t3.1.2.1, acTa t3.1.2.1, Option.bind_some, show p < 6 by omega, c5, hw1]
      cases e0 : (wn (dC D) p).isSome
      · rw [if_pos (show false = false from rfl), if_neg (show ¬ false = true by simp)]
        obtain ⟨υ, u1, u2, u3⟩ := m165 t3
        have hend : ∀ (w : Option Nat), mRs σ c f N (f181_76 102 (nI p) (ob w) υ) (.inr (tkE f N (tkE f N (tkE f N e)), (sWen (dC D) p w, dN D, dB D))) := fun w => by
          obtain ⟨ψ, y1, y2, y3⟩ := m165 u3
          have hRp := y3.1
          have hx3 := y3.2.2.2.2.2.1
          have hR1 : hasR (wI ψ (c + 5) p (ob w)) c := hRp
          have e6 : mI (wI ψ (c + 5) p (ob w)) c 6 = nI (nWe (dC D)) := by rw [mI_w, if_neg (by omega)]; exact hx3.1.2.2.2.2.2.2
          unfold f181_76
          simp only [acM u3.1.1, Option.bind_some, y1, acM hRp.1]
          rw [if_neg (h9n y3)]
          simp only [acGr hRp, acT0 hRp.2.1, acTw hRp.2.1, Option.bind_some, show p < 6 by omega]
          simp only [acGr hR1, acT0 hR1.2.1, Option.bind_some, e6, nI_1]
          have uc : Upd (Pce c) ψ (wI (wI ψ (c + 5) p (ob w)) c 6 (nI (nWe (dC D) + 1))) := (Upd.refl.wI (Pce_yes _ (by omega))).wI (Pce_yes _ (by omega))
          refine ⟨_, rfl, (mr_fl (t2.trans (u2.trans y2))).trans (mr_ce uc), mRd_cell (D' := (sWen (dC D) p w, dN D, dB D)) (hh := dh D) y3 uc (dh_eq rfl (hr_wen (dC D) _ _)) ?_ (fun i hi => y3.2.2.2.2.2.2 i hi)⟩
          show mCx _ c (sWen (dC D) p w) (dh D)
          refine mX_wen hx3 hc (fun a i a1 a2 a3 => ?_) ?_ ?_
          · rw [mI_w, if_neg (by omega), mI_w, if_neg (by omega)]
          · rw [mI_w, if_pos ⟨rfl, rfl⟩]
          · rw [mI_w, if_neg (by omega), mI_w, if_pos ⟨rfl, rfl⟩]
        unfold f181_37
        simp only [acM t3.1.1, Option.bind_some, u1, acM u3.1.1, m167 u3 kCat_ok.1 kCat_ok.2.2, bo_0]
        cases e2 : isW f N kCat (tkE f N (tkE f N e))
        · rw [if_pos (show false = false from rfl), if_neg (show ¬ false = true by simp)]
          rcases m172 u3 hO with ⟨x, ψ, e3, w1, w2, w3⟩ | ⟨q, e3, hq, w1⟩
          · rw [e3, w1, Option.bind_some]
            simp only [acM w3.1.1, Option.bind_some, w3.2.1, if_true, o181_76 w3]
            exact ⟨ψ, rfl, mr_fl (t2.trans (u2.trans w2)), w3⟩
          · rw [e3, w1, Option.bind_some]
            simp only [acM u3.1.1, Option.bind_some]
            rw [if_neg (h9n u3)]
            simp only [show (nI q = nI p) = (q = p) from propext (nI_eq (by omega) (by omega))]
            by_cases e4 : q = p
            · obtain ⟨a1, a2, a3⟩ := m166 u3 hp6 3
              rw [if_pos e4, if_pos e4, show (3 : Int32) = nI 3 from rfl, a1, Option.bind_some, o181_76 a3]
              exact ⟨_, rfl, mr_fl (t2.trans (u2.trans a2)), a3⟩
            · rw [if_neg e4, if_neg e4]
              exact hend (some q)
        · rw [if_neg (show ¬ true = false by simp), if_pos (show true = true from rfl)]
          exact hend none
      · obtain ⟨a1, a2, a3⟩ := m166 t3 hp6 3
        rw [if_neg (show ¬ true = false by simp), if_pos (show true = true from rfl), show (3 : Int32) = nI 3 from rfl, a1, Option.bind_some, o181_37 a3]
        exact ⟨_, rfl, mr_fl (t2.trans a2), a3⟩
/-- readLine -/
theorem m174 (h : mRd σ c f N e D) (hO : OkD D) : mRs σ c f N (f174 102 σ) (lLine f N D e) := by
  have hR := h.1
  have hp6 := hO.1.1
  have co : cO σ 102 9 = some () := by simp only [acM hR.1]
  have bs : ∀ o : Option xM, (o.bind fun y => f174_101 y) = o := fun o => by cases o <;> rfl
  unfold f174 lLine
  simp only [co, Option.bind_some, m167 h kCity_ok.1 kCity_ok.2.2, m167 h kPerson_ok.1 kPerson_ok.2.2, m167 h kNear_ok.1 kNear_ok.2.2, m167 h kAsked_ok.1 kAsked_ok.2.2, m167 h kHeard_ok.1 kHeard_ok.2.2, m167 h kWent_ok.1 kWent_ok.2.2, bo_0, bs]
  cases i1 : isW f N kCity e
  · rw [if_pos (show false = false from rfl), if_neg (show ¬ false = true by simp)]
    cases i2 : isW f N kPerson e
    · rw [if_pos (show false = false from rfl), if_neg (show ¬ false = true by simp)]
      cases i3 : isW f N kNear e
      · rw [if_pos (show false = false from rfl), if_neg (show ¬ false = true by simp)]
        cases i4 : isW f N kAsked e
        · rw [if_pos (show false = false from rfl), if_neg (show ¬ false = true by simp)]
          cases i5 : isW f N kHeard e
          · rw [if_pos (show false = false from rfl), if_neg (show ¬ false = true by simp)]
            cases i6 : isW f N kWent e
            · rw [if_pos (show false = false from rfl), if_neg (show ¬ false = true by simp)]
              obtain ⟨a1, a2, a3⟩ := m166 h hp6 1
              rw [show (1 : Int32) = nI 1 from rfl, a1]
              exact ⟨_, rfl, mr_fl a2, a3⟩
            · rw [if_neg (show ¬ true = false by simp), if_pos (show true = true from rfl)]
              exact m181 h hO
          · rw [if_neg (show ¬ true = false by simp), if_pos (show true = true from rfl)]
            exact m180 h hO
        · rw [if_neg (show ¬ true = false by simp), if_pos (show true = true from rfl)]
          exact m179 h hO
      · rw [if_neg (show ¬ true = false by simp), if_pos (show true = true from rfl)]
        exact m177 h hO
    · rw [if_neg (show ¬ true = false by simp), if_pos (show true = true from rfl)]
      exact m176 h hO
  · rw [if_neg (show ¬ true = false by simp), if_pos (show true = true from rfl)]
    exact m175 h hO
/-- what readAll leaves -/
def mRa (σ : xM) (c : Nat) (o : Option xM) (r : Sum (Nat × Nat) Drf) : Prop := match r with
  | .inl x => ∃ τ, o = some τ ∧ Upd (Pmr c) σ τ ∧ mI τ 102 12 = nI x.1 ∧ mI τ 102 13 = nI x.2 ∧ hasR τ c
  | .inr D => ∃ τ, o = some τ ∧ Upd (Pmr c) σ τ ∧ mI τ 102 12 = 0 ∧ hasR τ c ∧ mCx τ c (dC D) (dh D)
theorem f173_2N : ∀ (k m : Nat) (D : Drf) (e : Nat) (σ : xM), mRd σ c f N e D → OkD D → N + 1 ≤ e + k → k + 2 ≤ m → mRa σ c (f173_2 m 102 1 σ) (rAll f N k D e) := by
  intro k
  induction k with
  | zero => intro m D e σ h _ hk; have := h.2.2.1; omega
  | succ k ih =>
    intro m D e σ h hO hk hm
    obtain ⟨m, rfl⟩ : ∃ j, m = j + 2 := ⟨m - 2, by omega⟩
    have he := h.2.2.1
    have hR := h.1
    have hstop : ∀ τ, f173_2 (m + 1) 102 (bo false) τ = f173_18 102 τ := fun τ => by
      rw [f173_2, if_pos (by decide)]
    have h174 := m174 h hO
    rw [f173_2, if_neg (by decide), rAll]
    simp only [acM hR.1, Option.bind_some]
    cases e1 : lLine f N D e with
    | inl x =>
      rw [e1] at h174
      obtain ⟨τ, t1, t2, t3⟩ := h174
      rw [t1, Option.bind_some]
      simp only [acM t3.1.1, Option.bind_some, o168 t3, hstop]
      refine ⟨τ, ?_, t2, t3.2.2.1, t3.2.2.2.1, t3.1⟩
      unfold f173_18 f173_31 f173_47
      simp only [acM t3.1.1, Option.bind_some, t3.2.1, o166 t3, acGr t3.1, acT0 t3.1.2.1]
      rw [if_neg (show ¬ (5 : Int32) = 1 by decide)]
      split <;> rfl
    | inr y =>
      rw [e1] at h174
      obtain ⟨τ, t1, t2, t3⟩ := h174
      obtain ⟨a, b, cc⟩ := lLine_ok hO he e1
      have b1 := tkE_b (f := f) b
      have hk4 := tkK_4 (f := f) (N := N) (e := y.1)
      have h9 := t3.2.2.2.1.2.2.1
      have hmk : ∀ k, k < 5 → ((nI (mk k) = 4) ↔ k = 3) ∧ ((nI (mk k) = 1) ↔ k = 0) := by decide
      obtain ⟨g1, g2⟩ := hmk _ (show tkK f N y.1 < 5 by omega)
      rw [t1, Option.bind_some]
      by_cases e3 : tkK f N y.1 = 3
      · obtain ⟨υ, v1, v2, v3⟩ := m165 t3
        have h168 : f168 102 τ = some (bo true, υ) := by
          unfold f168 f168_13 f168_22
          simp only [acM t3.1.1, Option.bind_some, h9, g1, e3, if_true, v1]
          rfl
        simp only [acM t3.1.1, Option.bind_some, h168]
        rw [if_pos e3]
        have := ih (m + 1) y.2 (tkE f N y.1) υ v3 cc (by omega) (by omega)
        have uu : Upd (Pmr c) σ υ := t2.trans (mr_fl v2)
        rw [show bo true = 1 from rfl]
        cases er : rAll f N k y.2 (tkE f N y.1) with
        | inl x => rw [er] at this; obtain ⟨ψ, p1, p2, p3⟩ := this; exact ⟨ψ, p1, uu.trans p2, p3⟩
        | inr D' => rw [er] at this; obtain ⟨ψ, p1, p2, p3⟩ := this; exact ⟨ψ, p1, uu.trans p2, p3⟩
      · have h168 : f168 102 τ = some (bo false, τ) := by
          unfold f168 f168_13 f168_22
          simp only [acM t3.1.1, Option.bind_some, h9]
          rw [if_neg (fun h => e3 (g1.mp h))]
          rfl
        simp only [acM t3.1.1, Option.bind_some, h168, hstop]
        rw [if_neg e3]
        have hp6' := cc.1.1
        have ep : mI τ c 2 = nI (pe (dC y.2)) := t3.2.2.2.2.2.1.1.2.2.1
        have ovr : ∀ kk, (m166 t3 hp6' kk).2.2 = (m166 t3 hp6' kk).2.2 := fun _ => rfl
        unfold f173_18
        simp only [acM t3.1.1, Option.bind_some, h9]
        by_cases e0 : tkK f N y.1 = 0
        · rw [if_pos (g2.mpr e0), if_pos e0]
          unfold f173_31 f173_47
          simp only [acM t3.1.1, acGr t3.1, acT0 t3.1.2.1, Option.bind_some, ep, show (nI (pe (dC y.2)) = 0) = (pe (dC y.2) = 0) from propext (nI_eq (a := pe (dC y.2)) (b := 0) (by omega) (by omega))]
          by_cases epz : pe (dC y.2) = 0
          · obtain ⟨a1, a2, a3⟩ := m166 t3 hp6' 6
            rw [if_pos epz, if_pos epz, show (6 : Int32) = nI 6 from rfl, a1, Option.bind_some]
            exact ⟨_, rfl, t2.trans (mr_fl a2), a3.2.2.1, a3.2.2.2.1, a3.1⟩
          · rw [if_neg epz, if_neg epz]
            exact ⟨τ, rfl, t2, t3.2.2.2.2.1, t3.1, t3.2.2.2.2.2.1⟩
        · obtain ⟨a1, a2, a3⟩ := m166 t3 hp6' 1
          rw [if_neg (fun h => e0 (g2.mp h)), if_neg e0, show (1 : Int32) = nI 1 from rfl, a1, Option.bind_some]
          refine ⟨_, ?_, t2.trans (mr_fl a2), a3.2.2.1, a3.2.2.2.1, a3.1⟩
          unfold f173_31 f173_47
          simp only [acM a3.1.1, acGr a3.1, acT0 a3.1.2.1, Option.bind_some, o166 a3]
          split <;> rfl
end REF
