/-! THE TEXT: the reference's lines: near, pairs -/
section REF
variable {σ : xM} {c : Nat} {f : Nat → Int32} {N e : Nat} {D D' : Drf} {x : Nat × Nat} {C : Cty}
/-- what lineBegins found -/
theorem lb_eq {a b : Nat} {r : Sum (Nat × Nat) (Nat × Drf)} (h : (if dB D then (if a < b then none else some (5, tkS f N e)) else some (6, tkS f N e)) = some x) : (if dB D then (if a < b then r else .inl (5, tkS f N e)) else .inl (6, tkS f N e)) = .inl x := by
  cases hb : dB D
  · rw [hb] at h
    have := Option.some.inj h
    rw [← this]
    rfl
  · rw [hb, if_pos rfl] at h
    rw [if_pos rfl]
    split at h
    · cases h
    · rename_i hn
      have := Option.some.inj h
      rw [if_neg hn, ← this]
theorem o177_61 (h : mOv σ c x) (a b : Int32) : f177_61 102 a b σ = some σ := by
  unfold f177_61
  simp only [acM h.1.1, Option.bind_some, o165 h, h.2.1]
  rfl
/-- readNear -/
theorem m177 (h : mRd σ c f N e D) (hO : OkD D) : mRs σ c f N (f177 102 σ) (if dB D then (if nNe (dC D) < 9 then lNear f N D (tkE f N e) else .inl (5, tkS f N e)) else .inl (6, tkS f N e)) := by
  have hR := h.1
  have hc := hR.2.1.1
  have hp6 := hO.1.1
  unfold f177
  simp only [acGr hR, acT0 hR.2.1, acM hR.1, Option.bind_some, h.2.2.2.2.2.1.1.2.2.2.1, show (9 : Int32) = nI 9 from rfl]
  rcases m171 h hO (a := nNe (dC D)) (b := 9) hO.2.2.1 (by decide) (fun hb => by have := (hO.2.2.2.2.2 hb).2.1; omega) with ⟨x, τ, e1, t1, t2, t3⟩ | ⟨hb, hlt, τ, t1, t2, t3⟩
  · rw [t1, Option.bind_some, lb_eq e1]
    simp only [acM t3.1.1, Option.bind_some, o172 t3, o165 t3, t3.2.1, if_true, o177_61 t3]
    exact ⟨τ, rfl, mr_fl t2, t3⟩
  · rw [t1, Option.bind_some, hb, if_pos rfl, if_pos hlt]
    unfold lNear
    simp only [acM t3.1.1, Option.bind_some]
    rcases m172 t3 hO with ⟨x, υ, e1, v1, v2, v3⟩ | ⟨p, e1, hp, v1⟩
    · rw [e1, v1, Option.bind_some]
      simp only [acM v3.1.1, Option.bind_some, o172 v3, o165 v3, v3.2.1, if_true, o177_61 v3]
      exact ⟨υ, rfl, mr_fl (t2.trans v2), v3⟩
    · obtain ⟨υ, u1, u2, u3⟩ := m165 t3
      rw [e1, v1, Option.bind_some]
      simp only [acM t3.1.1, Option.bind_some, u1, acM u3.1.1]
      rcases m172 u3 hO with ⟨x, ψ, e2, w1, w2, w3⟩ | ⟨q, e2, hq, w1⟩
      · rw [e2, w1, Option.bind_some]
        simp only [acM w3.1.1, Option.bind_some, w3.2.1, if_true, o177_61 w3]
        exact ⟨ψ, rfl, mr_fl (t2.trans (u2.trans w2)), w3⟩
      · have hx := u3.2.2.2.2.2.1
        have hn64 : nr (dC D) p < 64 := hO.1.nr64 (by omega)
        have hq64 : nr (dC D) q < 64 := hO.1.nr64 (by omega)
        have c4p : mI υ (c + 4) p = nI (nr (dC D) p) := (hx.2.2.1 p (by omega)).1
        have hfl : mRs σ c f N (f177_56 102 (nI p) (nI q) υ) (.inl (3, tkS f N (tkE f N (tkE f N e)))) := by
          obtain ⟨a1, a2, a3⟩ := m166 u3 hp6 3
          unfold f177_56
          simp only [acM u3.1.1, Option.bind_some, show (3 : Int32) = nI 3 from rfl, a1, o177_61 a3]
          exact ⟨_, rfl, mr_fl (t2.trans (u2.trans a2)), a3⟩
        rw [e2, w1, Option.bind_some]
        simp only [acM u3.1.1, Option.bind_some]
        rw [if_neg (h9n u3)]
        simp only [show (nI p = nI q) = (p = q) from propext (nI_eq (by omega) (by omega))]
        by_cases e3 : q = p
        · rw [if_pos e3.symm, if_pos (Or.inl e3)]
          exact hfl
        · rw [if_neg (fun h => e3 h.symm)]
          simp only [acGr u3.1, acT0 u3.1.2.1, acTa u3.1.2.1, Option.bind_some, show p < 6 by omega, c4p, f157N hn64 (show q < 6 by omega), bo_0]
          cases e4 : tb (nr (dC D) p) q
          · rw [if_pos rfl, if_neg (fun h => h.elim e3 (fun h => by cases h))]
            obtain ⟨ψ, y1, y2, y3⟩ := m165 u3
            have hRp := y3.1
            have hx3 := y3.2.2.2.2.2.1
            have d4p : mI ψ (c + 4) p = nI (nr (dC D) p) := (hx3.2.2.1 p (by omega)).1
            have d4q : mI ψ (c + 4) q = nI (nr (dC D) q) := (hx3.2.2.1 q (by omega)).1
            unfold f177_61
            simp only [acM u3.1.1, Option.bind_some, y1, acM hRp.1]
            rw [if_neg (h9n y3)]
            have hR1 : hasR (wI ψ (c + 4) p (nI (nr (dC D) p ||| 2 ^ q))) c := hRp
            have e6 : mI (wI ψ (c + 4) p (nI (nr (dC D) p ||| 2 ^ q))) (c + 4) q = nI (nr (dC D) q) := by rw [mI_w, if_neg (by omega)]; exact d4q
            have hR2 : hasR (wI (wI ψ (c + 4) p (nI (nr (dC D) p ||| 2 ^ q))) (c + 4) q (nI (nr (dC D) q ||| 2 ^ p))) c := hRp
            have e23 : mI (wI (wI ψ (c + 4) p (nI (nr (dC D) p ||| 2 ^ q))) (c + 4) q (nI (nr (dC D) q ||| 2 ^ p))) c 3 = nI (nNe (dC D)) := by rw [mI_w, if_neg (by omega), mI_w, if_neg (by omega)]; exact hx3.1.2.2.2.1
            simp only [acGr hRp, acT0 hRp.2.1, acTa hRp.2.1, acTw hRp.2.1, Option.bind_some, show p < 6 by omega, d4p, orN _ hn64 q (show q < 6 by omega)]
            simp only [acGr hR1, acT0 hR1.2.1, acTa hR1.2.1, acTw hR1.2.1, Option.bind_some, show q < 6 by omega, e6, orN _ hq64 p (show p < 6 by omega)]
            simp only [acGr hR2, acT0 hR2.2.1, Option.bind_some, e23, nI_1]
            have uc : Upd (Pce c) ψ (wI (wI (wI ψ (c + 4) p (nI (nr (dC D) p ||| 2 ^ q))) (c + 4) q (nI (nr (dC D) q ||| 2 ^ p))) c 3 (nI (nNe (dC D) + 1))) := ((Upd.refl.wI (Pce_yes _ (by omega))).wI (Pce_yes _ (by omega))).wI (Pce_yes _ (by omega))
            refine ⟨_, rfl, (mr_fl (t2.trans (u2.trans y2))).trans (mr_ce uc), mRd_cell (D' := (sNear (dC D) p q, dN D, dB D)) (hh := dh D) y3 uc (dh_eq rfl (hr_near (dC D) p q)) ?_ (fun i hi => y3.2.2.2.2.2.2 i hi)⟩
            show mCx _ c (sNear (dC D) p q) (dh D)
            refine mX_near hx3 hc (fun h => e3 h.symm) (fun a i a1 a2 a3 => ?_) ?_ ?_ ?_
            · rw [mI_w, if_neg (by omega), mI_w, if_neg (by omega), mI_w, if_neg (by omega)]
            · rw [mI_w, if_pos ⟨rfl, rfl⟩]
            · rw [mI_w, if_neg (by omega), mI_w, if_neg (by omega), mI_w, if_pos ⟨rfl, rfl⟩]
            · rw [mI_w, if_neg (by omega), mI_w, if_pos ⟨rfl, rfl⟩]
          · rw [if_neg (by simp), if_pos (Or.inr rfl)]
            exact hfl
/-- mayAsk, of the city under way -/
theorem f148R (hR : hasR σ c) {hh : Int32} (hM : mCx σ c C hh) (hO : OkC C) {p q : Nat} (hp : p < pe C) (hq : q < pe C) (hpq : p ≠ q) : f148 c (nI p) (nI q) σ = some (bo (alw C p q), σ) := by
  have h6 := hO.1
  have k1 := (hM.2.1 p hp).1
  have k2 := (hM.2.1 q hq).1
  have k3 := (hM.2.2.1 q (by omega)).1
  have b1 := (hO.2.1 p hp).1
  have b2 := (hO.2.1 q hq).1
  unfold f148 f148_43 f148_47 f148_48
  simp only [acT0 hR.2.1, acTa hR.2.1, Option.bind_some, show p < 6 by omega, show q < 6 by omega, k1, k2, k3, f157N (hO.nr64 (show q < 6 by omega)) (show p < 6 by omega), bo_0, rZ0, rZ1, rZ1', show (3 : Int32) = nI 3 from rfl, show (1 : Int32) = nI 1 from rfl, show (2 : Int32) = nI 2 from rfl, nI_eq (show kd C p < 2 ^ 31 by omega) (show 3 < 2 ^ 31 by omega), nI_eq (show kd C q < 2 ^ 31 by omega) (show 1 < 2 ^ 31 by omega), nI_eq (show kd C q < 2 ^ 31 by omega) (show 2 < 2 ^ 31 by omega)]
  unfold alw
  rw [decide_eq_true (show ¬ p = q from hpq)]
  by_cases e2 : kd C p = 3
  · simp [e2]
  · by_cases e3 : kd C q = 1
    · simp [e2, e3]
    · by_cases e4 : kd C q = 2
      · simp only [e2, e3, e4]
        cases tb (nr C q) p <;> simp [rZ1']
      · simp [e2, e3, e4, rZ1']
theorem o178_115 (h : mOv σ c x) (v : Int32) : f178_115 102 v σ = some (v, σ) := by
  unfold f178_115
  simp only [acM h.1.1, Option.bind_some, o165 h]
theorem o178_86 (h : mOv σ c x) (v : Int32) : f178_86 102 v σ = some (v, σ) := by
  unfold f178_86
  simp only [acM h.1.1, Option.bind_some, h.2.1, o178_115 h]
  rfl
theorem o178_32 (h : mOv σ c x) (v : Int32) : ∃ τ, f178_32 102 v σ = some (v, τ) ∧ Upd P15 σ τ ∧ mOv τ c x := by
  have u : Upd P15 σ (wI σ 102 15 0) := Upd.refl.wI rfl
  have h' := mOv_fl u h
  refine ⟨_, ?_, u, h'⟩
  unfold f178_32
  simp only [acM h.1.1, Option.bind_some, o165 h, o172 h, acM h'.1.1, h'.2.1, o178_86 h']
  rfl
theorem mRd_15 (h : mRd σ c f N e D) (v : Int32) : mRd (wI σ 102 15 v) c f N e D := by
  obtain ⟨h1, h2, h3, h4, h5, h6, h7⟩ := h
  have hc := h1.2.1.1
  have u : Upd P15 σ (wI σ 102 15 v) := Upd.refl.wI rfl
  have e102 : ∀ k, k ≠ 15 → mI (wI σ 102 15 v) 102 k = mI σ 102 k := fun k hk => by rw [mI_w, if_neg (fun h => hk h.2)]
  have ec : ∀ a k, a ≠ 102 → mI (wI σ 102 15 v) a k = mI σ a k := fun a k ha => by rw [mI_w, if_neg (fun h => ha h.1)]
  refine ⟨h1, rmB_upd u rfl (fun _ => rfl) h2, h3, ⟨?_, ?_, ?_, h4.2.2.2.1, fun hk => ?_⟩, ?_, ?_, h7⟩
  · rw [e102 _ (by omega)]; exact h4.1
  · rw [e102 _ (by omega)]; exact h4.2.1
  · rw [e102 _ (by omega)]; exact h4.2.2.1
  · rw [e102 _ (by omega)]; exact h4.2.2.2.2 hk
  · rw [e102 _ (by omega)]; exact h5
  · obtain ⟨⟨a1, a2, a3, a4, a5, a6, a7⟩, c2, c3, c4, c5⟩ := h6
    refine ⟨⟨?_, ?_, ?_, ?_, ?_, ?_, ?_⟩, fun p hp => ?_, fun p hp => ?_, fun p hp q hq => ?_, fun k hk => ?_⟩
    · rw [ec _ _ (by omega)]; exact a1
    · rw [ec _ _ (by omega)]; exact a2
    · rw [ec _ _ (by omega)]; exact a3
    · rw [ec _ _ (by omega)]; exact a4
    · rw [ec _ _ (by omega)]; exact a5
    · rw [ec _ _ (by omega)]; exact a6
    · rw [ec _ _ (by omega)]; exact a7
    · rw [ec _ _ (by omega), ec _ _ (by omega), ec _ _ (by omega)]; exact c2 p hp
    · rw [ec _ _ (by omega), ec _ _ (by omega)]; exact c3 p hp
    · rw [ec _ _ (by omega)]; exact c4 p hp q hq
    · rw [ec _ _ (by omega), ec _ _ (by omega), ec _ _ (by omega)]; exact c5 k hk
/-- readPair -/
theorem m178 (h : mRd σ c f N e D) (hO : OkD D) : (∃ x v τ, lPair f N D e = .inl x ∧ f178 102 σ = some (v, τ) ∧ Upd (Pmr c) σ τ ∧ mOv τ c x) ∨ (∃ y τ, lPair f N D e = .inr y ∧ f178 102 σ = some (nI y.2.1, τ) ∧ Upd (Pmr c) σ τ ∧ mRd τ c f N y.1 D ∧ mI τ 102 15 = nI y.2.2) := by
  have hR := h.1
  have hp6 := hO.1.1
  unfold f178 lPair
  simp only [acM hR.1, Option.bind_some]
  rcases m172 h hO with ⟨x, τ, e1, t1, t2, t3⟩ | ⟨p, e1, hp, t1⟩
  · obtain ⟨υ, v1, v2, v3⟩ := o178_32 t3 0
    rw [e1, t1, Option.bind_some]
    simp only [acM t3.1.1, Option.bind_some, t3.2.1, if_true, v1]
    exact Or.inl ⟨x, 0, υ, rfl, rfl, (mr_fl t2).trans (mr_15 v2), v3⟩
  · have hx := h.2.2.2.2.2.1
    have hkb := (hO.1.2.1 p hp).1
    have c3 : mI σ (c + 1) p = nI (kd (dC D) p) := (hx.2.1 p hp).1
    rw [e1, t1, Option.bind_some]
    simp only [acM hR.1, Option.bind_some]
    rw [if_neg (h9n h)]
    simp only [acGr hR, acT0 hR.2.1, acTa hR.2.1, Option.bind_some, show p < 6 by omega, c3, show (nI (kd (dC D) p) = 3) = (kd (dC D) p = 3) from propext (nI_eq (a := kd (dC D) p) (b := 3) (by omega) (by omega))]
    by_cases e0 : kd (dC D) p = 3
    · obtain ⟨a1, a2, a3⟩ := m166 h hp6 7
      obtain ⟨υ, v1, v2, v3⟩ := o178_32 a3 (nI p)
      rw [if_pos e0, if_pos e0, show (7 : Int32) = nI 7 from rfl, a1, Option.bind_some, v1]
      exact Or.inl ⟨_, _, υ, rfl, rfl, (mr_fl a2).trans (mr_15 v2), v3⟩
    · rw [if_neg e0, if_neg e0]
      obtain ⟨υ, u1, u2, u3⟩ := m165 h
      unfold f178_32
      simp only [acM hR.1, Option.bind_some, u1, acM u3.1.1]
      rcases m172 u3 hO with ⟨x, ψ, e2, w1, w2, w3⟩ | ⟨q, e2, hq, w1⟩
      · have u15 : Upd P15 ψ (wI ψ 102 15 0) := Upd.refl.wI rfl
        have w3' := mOv_fl u15 w3
        rw [e2, w1, Option.bind_some]
        simp only [acM w3.1.1, Option.bind_some, acM w3'.1.1, w3'.2.1, if_true, o178_86 w3']
        exact Or.inl ⟨x, _, _, rfl, rfl, (mr_fl (u2.trans w2)).trans (mr_15 u15), w3'⟩
      · have u15 : Upd P15 υ (wI υ 102 15 (nI q)) := Upd.refl.wI rfl
        have h15 := mRd_15 u3 (nI q)
        have g15 : mI (wI υ 102 15 (nI q)) 102 15 = nI q := by rw [mI_w, if_pos ⟨rfl, rfl⟩]
        rw [e2, w1, Option.bind_some]
        simp only [acM u3.1.1, Option.bind_some]
        have ut : Upd (Pmr c) σ (wI υ 102 15 (nI q)) := (mr_fl u2).trans (mr_15 u15)
        generalize wI υ 102 15 (nI q) = ω at u15 h15 g15 ut
        have hR5 := h15.1
        have hx5 := h15.2.2.2.2.2.1
        have c6 : mI ω (c + 6) (6 * p + q) = rM (r0 (dC D) p q) := hx5.2.2.2.1 p (by omega) q (by omega)
        have hr1 : (rM (r0 (dC D) p q) = -1) = ((r0 (dC D) p q).isSome = false) := by
          rw [rM_m1 (fun z hz => by
            have := (hO.1.2.2.2.2.2.2.2.1 p q z hz).2.2
            have := hO.1.2.2.2.2.2.2.2.2.2.1
            omega)]
          apply propext
          cases r0 (dC D) p q <;> simp
        have fl3 : ∃ τ, f178_81 102 (nI p) ω = some (nI p, τ) ∧ Upd (Pmr c) σ τ ∧ mOv τ c (3, tkS f N (tkE f N e)) := by
          obtain ⟨a1, a2, a3⟩ := m166 h15 hp6 3
          unfold f178_81
          simp only [acM hR5.1, Option.bind_some, show (3 : Int32) = nI 3 from rfl, a1, o178_86 a3]
          exact ⟨_, rfl, ut.trans (mr_fl a2), a3⟩
        simp only [acM hR5.1, Option.bind_some]
        rw [if_neg (h9n h15)]
        simp only [acGr hR5, acT0 hR5.2.1, acTa hR5.2.1, Option.bind_some, g15, show (nI p = nI q) = (p = q) from propext (nI_eq (by omega) (by omega)), show (6 : Int32) = nI 6 from rfl, pk_mul, nI_add, show 6 * p + q < 36 by omega, c6, hr1]
        by_cases e3 : q = p
        · obtain ⟨ξ, x1, x2, x3⟩ := fl3
          rw [if_pos (show p = q from e3.symm), if_pos (show q = p ∨ (r0 (dC D) p q).isSome = true from Or.inl e3), x1]
          exact Or.inl ⟨_, _, ξ, rfl, rfl, x2, x3⟩
        · rw [if_neg (show ¬ p = q from fun h => e3 h.symm)]
          cases e4 : (r0 (dC D) p q).isSome
          · rw [if_pos (show false = false from rfl), if_neg (show ¬ (q = p ∨ false = true) from fun h => h.elim e3 (fun h => by cases h))]
            unfold f178_86
            simp only [acM hR5.1, Option.bind_some]
            rw [if_neg (h9n h15)]
            simp only [acGr hR5, acT0 hR5.2.1, Option.bind_some, g15, f148R hR5 hx5 hO.1 hp hq (fun h => e3 h.symm), bo_0]
            cases e5 : alw (dC D) p q
            · obtain ⟨a1, a2, a3⟩ := m166 h15 hp6 7
              rw [if_pos (show false = false from rfl), if_pos (show false = false from rfl), show (7 : Int32) = nI 7 from rfl]
              simp only [acM hR5.1, Option.bind_some, a1, o178_115 a3]
              exact Or.inl ⟨_, _, _, rfl, rfl, ut.trans (mr_fl a2), a3⟩
            · rw [if_neg (show ¬ true = false by simp), if_neg (show ¬ true = false by simp)]
              obtain ⟨ξ, x1, x2, x3⟩ := m165 h15
              unfold f178_115
              simp only [acM hR5.1, Option.bind_some, x1]
              exact Or.inr ⟨_, ξ, rfl, rfl, ut.trans (mr_fl x2), x3, (x2.2.1 102 15 rfl).trans g15⟩
          · obtain ⟨ξ, x1, x2, x3⟩ := fl3
            rw [if_pos (show q = p ∨ true = true from Or.inr rfl), if_neg (show ¬ true = false by simp), x1]
            exact Or.inl ⟨_, _, ξ, rfl, rfl, x2, x3⟩
end REF
