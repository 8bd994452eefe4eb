/-! THE WORLD: city, fault, where, size, trouble -/
theorem Pci_no (a k : Nat) (h : 15 ≤ a) : Pci a k = false := by
  unfold Pci Prt Prd
  rw [beqF (show a ≠ 1 by omega), beqF (show a ≠ 0 by omega), beqF (show a ≠ 14 by omega)]
  have : Nat.ble a 12 = false := by rw [Bool.eq_false_iff]; intro h; rw [Nat.ble_eq] at h; omega
  rw [this]
  simp
section WLD
variable {σ τ : xM} {C : Cty} {s : Sta} {ps im : Nat → Sta} {na ni n : Nat} {f : Nat → Int32} {r ft wh : Int32}
theorem MW_Q (h : Upd PmQ σ τ) (h1 : mI τ 102 1 = r) (h2 : mI τ 102 2 = wh) {r' wh' : Int32} (hM : MW σ C s ps na im ni n f r' ft wh') : MW τ C s ps na im ni n f r ft wh := by
  obtain ⟨⟨q1, q2, q3, q4⟩, h2', h3, h4', h5, h6, h7⟩ := hM
  have e : ∀ b k, PmQ b k = false → mI τ b k = mI σ b k := h.2.1
  refine ⟨⟨h.sh q1, q2, row_upd h (fun _ => rfl) q3, ?_⟩, mP_upd h rfl (fun _ => rfl) h2', mIm_upd h rfl (fun _ => rfl) h3, ⟨h4'.1, (e 102 6 rfl).trans h4'.2.1, fun i hi => (e 103 i rfl).trans (h4'.2.2 i hi)⟩, h1, (e 102 12 rfl).trans h6, h2⟩
  rcases q4 with ⟨z1, z2⟩ | ⟨z1, z2, c, z3, z6⟩
  · exact Or.inl ⟨z1, by rw [h.1.2.2.1]; exact z2⟩
  · exact Or.inr ⟨z1, z2, c, h.hasT z3, mC_lo h loQ z3.2.1.1 z6⟩
theorem Q_fc (hS : Sh σ) (h : Upd PmQ σ τ) : Frc σ τ := Frc_upd hS (A_mQ h) PmA_lo
theorem T_two {F G : xM → Option (Int32 × xM)} {a : Int32} (hC : CW σ C s ps na im ni n f r ft wh) (hM : MW σ C s ps na im ni n f r ft wh) (hO : OW C s ps na im ni n f r wh) (hF : F σ = some (a, σ)) (hG : G σ = some (a, th σ)) : Two F G σ := by
  have u : Upd PmQ σ (th σ) := Upd.refl.wI rfl
  refine ⟨a, σ, th σ, hF, hG, ⟨rfl, rfl⟩, ⟨Nat.le_refl _, Nat.le_add_right _ _, Nat.le_add_right _ _⟩, C, s, ps, na, im, ni, n, f, r, ft, wh, CW_fr (Q_fc hC.1.1 u) hC, MW_Q u ?_ ?_ hM, hO⟩
  · unfold th
    rw [mI_w, if_neg (by omega)]
    exact hM.2.2.2.2.1
  · unfold th
    rw [mI_w, if_neg (by omega)]
    exact hM.2.2.2.2.2.2
theorem w66 (h : Wd σ) : Two (f66 0) (f184 102) σ := by
  obtain ⟨C, s, ps, na, im, ni, n, f, r, ft, wh, hC, hM, hO⟩ := h
  have hS := hC.1.1
  have hS1 : Sh (th σ) := hS
  refine T_two (a := ft) hC hM hO ?_ ?_
  · unfold f66
    simp only [acC hS, Option.bind_some, hC.2.2.2.2.2.2.1]
  · have e : mI (th σ) 102 12 = ft := by unfold th; rw [mI_w, if_neg (by omega)]; exact hM.2.2.2.2.2.1
    unfold f184
    simp only [acM hS, Option.bind_some]
    show ((gI (th σ) 102 9 12).bind fun v2 => some (v2, th σ)) = _
    simp only [acM hS1, Option.bind_some, e]
theorem w67 (h : Wd σ) : Two (f67 0) (f185 102) σ := by
  obtain ⟨C, s, ps, na, im, ni, n, f, r, ft, wh, hC, hM, hO⟩ := h
  have hS := hC.1.1
  have hS1 : Sh (th σ) := hS
  refine T_two (a := wh) hC hM hO ?_ ?_
  · unfold f67 f67_19
    simp only [acC hS, acR hS, Option.bind_some, hC.2.2.2.2.2.1]
    by_cases e : r = 4
    · rw [if_pos e, hC.2.2.2.2.2.2.2 e]
    · rw [if_neg e, hO.2.2.2.2.2.2 e]
  · have e : mI (th σ) 102 2 = wh := by unfold th; rw [mI_w, if_neg (by omega)]; exact hM.2.2.2.2.2.2
    unfold f185
    simp only [acM hS, Option.bind_some]
    show ((gI (th σ) 102 9 2).bind fun v2 => some (v2, th σ)) = _
    simp only [acM hS1, Option.bind_some, e]
theorem w113 (h : Wd σ) : Two (f113 0) (f272 102) σ := by
  obtain ⟨C, s, ps, na, im, ni, n, f, r, ft, wh, hC, hM, hO⟩ := h
  have hS := hC.1.1
  have hS1 : Sh (th σ) := hS
  refine T_two (a := r) hC hM hO ?_ ?_
  · unfold f113
    simp only [acC hS, Option.bind_some, hC.2.2.2.2.2.1]
  · have e : mI (th σ) 102 1 = r := by unfold th; rw [mI_w, if_neg (by omega)]; exact hM.2.2.2.2.1
    unfold f272
    simp only [acM hS, Option.bind_some]
    show ((gI (th σ) 102 9 1).bind fun v2 => some (v2, th σ)) = _
    simp only [acM hS1, Option.bind_some, e]
theorem w112 (h : Wd σ) (x : Int32) : Two (f112 0 x) (f271 102 x) σ := by
  obtain ⟨C, s, ps, na, im, ni, n, f, r, ft, wh, hC, hM, hO⟩ := h
  obtain ⟨q, h2, h3, h4, h5, h6⟩ := id hC
  exact T_two hC hM hO (c112 q.1 h2 q.2.2.1 q.2.2.2.1 h3 h4 h5 x) (m271 hM.1 hO.2.1 hM.2.1 hM.2.2.1 hM.2.2.2.1 x)
theorem w64 (h : Wd σ) (a b c d e : Int32) : Two (f64 0 a b c d e) (f182 102 a b c d e) σ := by
  obtain ⟨C, s, ps, na, im, ni, n, f, r, ft, wh, hC, hM, hO⟩ := h
  have hS := hC.1.1
  have hn := hC.2.2.2.2.1.1
  obtain ⟨o1, o2, o3, o4, o5, o6, o7⟩ := hO
  obtain ⟨τ, t1, t2, t3⟩ := c64 hS hC.2.2.2.2.1 a b c d e
  have fm := Frm_upd hS t2 (fun a k ha => by unfold Ptc; rw [beqF (show a ≠ 13 by omega), beqF (show a ≠ 1 by omega)]; rfl)
  have hM1 := MW_fr fm hM
  obtain ⟨υ, u1, u2, u3, u4⟩ := m182 hM1.1.1 hM1.2.2.2.1 a b c d e
  have fc := Frc_upd hM1.1.1 u2 (fun a k ha => by unfold Ptm2; rw [beqF (show a ≠ 103 by omega), beqF (show a ≠ 102 by omega)]; rfl)
  have pc : ∀ a k, 2 ≤ a → a ≠ 13 → Ptc a k = false := fun a k h1 h2 => by unfold Ptc; rw [beqF h2, beqF (show a ≠ 1 by omega)]; rfl
  have hC1 : CW τ C s ps na im ni (aFed n).2 (app f n (bt5 a b c d e)) r ft wh := by
    obtain ⟨⟨q1, q2, q3, q4, q5⟩, h2, h3, h4', h5, h6, h7, h8⟩ := hC
    have e : ∀ b k, Ptc b k = false → mI τ b k = mI σ b k := t2.2.1
    refine ⟨⟨t2.sh hS, (e 15 2 rfl).trans q2, cS_upd t2 (fun _ => rfl) (fun _ => rfl) (fun _ => rfl) q3, q4, fun hp => ?_⟩, ?_, cP_upd t2 (fun b k hb => pc b k (by omega) (by omega)) h3, cI_upd t2 (fun b k hb => pc b k (by omega) (by omega)) h4', t3, (e 0 8 rfl).trans h6, (e 0 9 rfl).trans h7, fun hr => (e 1 1 rfl).trans (h8 hr)⟩
    · obtain ⟨x1, x2, x3⟩ := q5 hp
      exact ⟨cC_upd t2 (fun i k hi => pc _ k (by omega) (by omega)) x1, x2, fun i hi => (e 22 i rfl).trans (x3 i hi)⟩
    · exact ⟨(e 15 0 rfl).trans h2.1, (e 15 1 rfl).trans h2.2.1, (e 15 2 rfl).trans h2.2.2.1, (e 15 3 rfl).trans h2.2.2.2.1, (e 15 4 rfl).trans h2.2.2.2.2.1, (e 15 5 rfl).trans h2.2.2.2.2.2.1, (e 15 6 rfl).trans h2.2.2.2.2.2.2⟩
  have pm : ∀ a k, a ≠ 103 → a ≠ 102 → Ptm2 a k = false := fun a k h1 h2 => by unfold Ptm2; rw [beqF h1, beqF h2]; rfl
  have hM2 : MW υ C s ps na im ni (aFed n).2 (app f n (bt5 a b c d e)) r ft wh := by
    obtain ⟨⟨q1, q2, q3, q4⟩, h2, h3, h4', h5, h6, h7⟩ := hM1
    have e : ∀ b k, Ptm2 b k = false → mI υ b k = mI τ b k := u2.2.1
    refine ⟨⟨u2.sh q1, q2, row_upd u2 (fun _ => rfl) q3, ?_⟩, mP_upd u2 rfl (fun _ => rfl) h2, mIm_upd u2 rfl (fun _ => rfl) h3, u3, (e 102 1 rfl).trans h5, (e 102 12 rfl).trans h6, (e 102 2 rfl).trans h7⟩
    rcases q4 with ⟨z1, z2⟩ | ⟨z1, z2, c, z3, z6⟩
    · exact Or.inl ⟨z1, by rw [u2.1.2.2.1]; exact z2⟩
    · exact Or.inr ⟨z1, z2, c, u2.hasT z3, mC_lo u2 (fun a k ha => pm a k (by omega) (by omega)) z3.2.1.1 z6⟩
  refine ⟨_, τ, υ, t1, u1, ⟨t2.1.2.2.2.1, t2.1.2.2.2.2⟩, ⟨by rw [u2.1.2.2.2.1]; omega, by rw [u2.1.2.2.2.1]; omega, by rw [u2.1.2.2.2.2]; omega⟩, C, s, ps, na, im, ni, _, _, r, ft, wh, CW_fr fc hC1, hM2, o1, o2, o3, o4, o5, fun i hi => ?_, o7⟩
  unfold app
  by_cases e1 : i < n
  · rw [if_pos e1]; exact o6 i e1
  · rw [if_neg e1]
    unfold bt5
    exact okB_of _
end WLD
