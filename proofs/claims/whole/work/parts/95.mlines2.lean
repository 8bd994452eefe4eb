/-! THE TEXT: the reference's lines: head, person, near -/
theorem acTw {σ : xM} {c : Nat} (h : ShT σ c) : (∀ j x, j < 6 → tI σ (c + 1) (nI j) x = some (wI σ (c + 1) j x)) ∧ (∀ j x, j < 6 → tI σ (c + 2) (nI j) x = some (wI σ (c + 2) j x)) ∧ (∀ j x, j < 6 → tI σ (c + 3) (nI j) x = some (wI σ (c + 3) j x)) ∧ (∀ j x, j < 6 → tI σ (c + 4) (nI j) x = some (wI σ (c + 4) j x)) ∧ (∀ j x, j < 6 → tI σ (c + 5) (nI j) x = some (wI σ (c + 5) j x)) ∧ (∀ j x, j < 36 → tI σ (c + 6) (nI j) x = some (wI σ (c + 6) j x)) ∧ (∀ j x, j < 3 → tI σ (c + 7) (nI j) x = some (wI σ (c + 7) j x)) ∧ (∀ j x, j < 3 → tI σ (c + 8) (nI j) x = some (wI σ (c + 8) j x)) ∧ (∀ j x, j < 3 → tI σ (c + 9) (nI j) x = some (wI σ (c + 9) j x)) ∧ (∀ j x, j < 6 → tJ σ (c + 10) (nI j) x = some (wJ σ (c + 10) j x)) := by
  obtain ⟨i1, i2, i3, i4, i5, i6, i7, i8, i9, i10⟩ := acTi h
  exact ⟨fun j x hj => tI_nI i1 hj (by decide), fun j x hj => tI_nI i2 hj (by decide), fun j x hj => tI_nI i3 hj (by decide), fun j x hj => tI_nI i4 hj (by decide), fun j x hj => tI_nI i5 hj (by decide), fun j x hj => tI_nI i6 hj (by decide), fun j x hj => tI_nI i7 hj (by decide), fun j x hj => tI_nI i8 hj (by decide), fun j x hj => tI_nI i9 hj (by decide), fun j x hj => tJ_nI i10 hj (by decide)⟩
def Pce (c : Nat) : Nat → Nat → Bool := fun a _ => Nat.ble c a && Nat.ble a (c + 10)
theorem Pce_yes {c a : Nat} (k : Nat) (h : c ≤ a ∧ a ≤ c + 10) : Pce c a k = true := by
  unfold Pce
  rw [Nat.ble_eq.mpr h.1, Nat.ble_eq.mpr h.2]
  rfl
theorem Pce_no {c a : Nat} (k : Nat) (h : a < c ∨ c + 10 < a) : Pce c a k = false := by
  unfold Pce
  rw [Bool.and_eq_false_iff]
  rcases h with h | h
  · exact Or.inl (by rw [Bool.eq_false_iff]; intro h2; rw [Nat.ble_eq] at h2; omega)
  · exact Or.inr (by rw [Bool.eq_false_iff]; intro h2; rw [Nat.ble_eq] at h2; omega)
def P15 : Nat → Nat → Bool := fun a k => Nat.beq a 102 && Nat.beq k 15
def Pmr (c : Nat) : Nat → Nat → Bool := fun a k => Pfl a k || (P15 a k || Pce c a k)
section REF
variable {σ : xM} {c : Nat} {f : Nat → Int32} {N e : Nat} {D D' : Drf} {x : Nat × Nat}
theorem mr_fl {τ : xM} (h : Upd Pfl σ τ) : Upd (Pmr c) σ τ := h.mono (fun a k hq => by
  unfold Pmr at hq
  rw [Bool.or_eq_false_iff] at hq
  exact hq.1)
theorem mr_15 {τ : xM} (h : Upd P15 σ τ) : Upd (Pmr c) σ τ := h.mono (fun a k hq => by
  unfold Pmr at hq
  rw [Bool.or_eq_false_iff, Bool.or_eq_false_iff] at hq
  exact hq.2.1)
theorem mr_ce {τ : xM} (h : Upd (Pce c) σ τ) : Upd (Pmr c) σ τ := h.mono (fun a k hq => by
  unfold Pmr at hq
  rw [Bool.or_eq_false_iff, Bool.or_eq_false_iff] at hq
  exact hq.2.2)
theorem dh_t (h : dB D = true) : dh D = nI (hr0 (dC D)) := by unfold dh; rw [if_pos h]
theorem dh_eq (h1 : dB D' = dB D) (h2 : hr0 (dC D') = hr0 (dC D)) : dh D' = dh D := by unfold dh; rw [h1, h2]
theorem mRd_cell {τ : xM} {hh : Int32} (h : mRd σ c f N e D) (hu : Upd (Pce c) σ τ) (hd : dh D' = hh) (hx : mCx τ c (dC D') hh) (hn : ∀ p, p < pe (dC D') → mJ τ (c + 10) p = lN (wdM (dN D' p))) : mRd τ c f N e D' := by
  obtain ⟨h1, h2, h3, h4, h5, h6, h7⟩ := h
  have hc := h1.2.1.1
  have e102 : ∀ k, mI τ 102 k = mI σ 102 k := fun k => hu.2.1 102 k (Pce_no k (by omega))
  subst hd
  refine ⟨hu.hasR h1, rmB_upd hu (Pce_no _ (by omega)) (fun _ => Pce_no _ (by omega)) h2, h3, ⟨?_, ?_, ?_, fun hk => ?_, fun hk => ?_⟩, ?_, hx, hn⟩
  · rw [e102]; exact h4.1
  · rw [e102]; exact h4.2.1
  · rw [e102]; exact h4.2.2.1
  · rw [hu.2.2 102 14 (Pce_no _ (by omega))]; exact h4.2.2.2.1 hk
  · rw [e102]; exact h4.2.2.2.2 hk
  · rw [e102]; exact h5
def mRs (σ : xM) (c : Nat) (f : Nat → Int32) (N : Nat) (o : Option xM) (r : Sum (Nat × Nat) (Nat × Drf)) : Prop := match r with
  | .inl x => ∃ τ, o = some τ ∧ Upd (Pmr c) σ τ ∧ mOv τ c x
  | .inr y => ∃ τ, o = some τ ∧ Upd (Pmr c) σ τ ∧ mRd τ c f N y.1 y.2
theorem h9n (h : mRd σ c f N e D) : ¬ mI σ 102 9 = 5 := by
  rw [h.2.2.2.1.2.2.1]
  exact mk_5 _
theorem o175_16 (h : mOv σ c x) : f175_16 102 σ = some σ := by
  unfold f175_16
  simp only [acM h.1.1, Option.bind_some, o165 h, o169 h, h.2.1]
  rfl
/-- readCity -/
theorem m175 (h : mRd σ c f N e D) (hO : OkD D) : mRs σ c f N (f175 102 σ) (if dB D then .inl (3, tkS f N e) else lHead f N D (tkE f N e)) := by
  have hR := h.1
  have hc := hR.2.1.1
  have hp6 := hO.1.1
  have h99 := hO.1.2.2.2.2.2.2.2.2.2.1
  have h0 : mI σ c 0 = dh D := h.2.2.2.2.2.1.1.1
  unfold f175
  simp only [acGr hR, acT0 hR.2.1, acM hR.1, Option.bind_some, h0]
  cases hb : dB D
  · rw [if_pos (show dh D = -1 by unfold dh; rw [hb]; rfl), if_neg (by simp)]
    obtain ⟨τ, t1, t2, t3⟩ := m165 h
    unfold f175_16 lHead
    simp only [acM hR.1, Option.bind_some, t1, acM t3.1.1, show (99 : Int32) = nI 99 from rfl, show (9 : Int32) = nI 9 from rfl]
    rcases mpt t3 hp6 kHour_ok.1 kHour_ok.2.2 (show 99 < 2 ^ 31 by decide) with ⟨x, υ, e1, v1, v2, v3⟩ | ⟨y, υ, e1, v1, v2, v3, v4⟩
    · rw [e1, v1, Option.bind_some]
      simp only [acM v3.1.1, Option.bind_some, o169 v3, v3.2.1]
      exact ⟨υ, rfl, mr_fl (t2.trans v2), v3⟩
    · rw [e1, v1, Option.bind_some]
      simp only [acM v3.1.1, Option.bind_some]
      rcases mpt v3 hp6 kGives_ok.1 kGives_ok.2.2 (show 9 < 2 ^ 31 by decide) with ⟨x, ψ, e2, p1, p2, p3⟩ | ⟨z, ψ, e2, p1, p2, p3, p4⟩
      · rw [e2, p1, Option.bind_some]
        simp only [acM p3.1.1, Option.bind_some, p3.2.1]
        exact ⟨ψ, rfl, mr_fl (t2.trans (v2.trans p2)), p3⟩
      · have hRp := p3.1
        have hR1 : hasR (wI ψ c 0 (nI y.2)) c := hRp
        rw [e2, p1, Option.bind_some]
        simp only [acM hRp.1, Option.bind_some]
        rw [if_neg (h9n p3)]
        simp only [acGr hRp, acT0 hRp.2.1, Option.bind_some, acGr hR1, acT0 hR1.2.1]
        have uc : Upd (Pce c) ψ (wI (wI ψ c 0 (nI y.2)) c 1 (nI z.2)) := (Upd.refl.wI (Pce_yes _ (by omega))).wI (Pce_yes _ (by omega))
        refine ⟨_, rfl, (mr_fl (t2.trans (v2.trans p2))).trans (mr_ce uc), mRd_cell (D' := (sHead (dC D) y.2 z.2, dN D, true)) (hh := nI y.2) p3 uc (dh_t rfl) ?_ (fun p hp => p3.2.2.2.2.2.2 p hp)⟩
        refine mX_head p3.2.2.2.2.2.1 hc (fun a k a1 a2 a3 => ?_) ?_ ?_
        · rw [mI_w, if_neg (by omega), mI_w, if_neg (by omega)]
        · rw [mI_w, if_neg (by omega), mI_w, if_pos ⟨rfl, rfl⟩]
        · rw [mI_w, if_pos ⟨rfl, rfl⟩]
  · rw [if_neg (show ¬ dh D = -1 by unfold dh; rw [hb, if_pos rfl]; exact obB_p (by omega)), if_pos rfl]
    obtain ⟨a1, a2, a3⟩ := m166 h hp6 3
    rw [show (3 : Int32) = nI 3 from rfl, a1, Option.bind_some, o175_16 a3]
    exact ⟨_, rfl, mr_fl a2, a3⟩
end REF
