/-! THE WORLD: city -/
section WLD
variable {σ τ : xM} {C : Cty} {s : Sta} {ps im : Nat → Sta} {na ni n : Nat} {f : Nat → Int32} {r ft wh : Int32}
theorem w65 (h : Wd σ) (x : Int32) : Two (f65 0 x) (f183 102 x) σ := by
  obtain ⟨C, s, ps, na, im, ni, n, f, r, ft, wh, hC, hM, hO⟩ := h
  have hS := hC.1.1
  have hn9 := hC.2.2.2.2.1.1
  have hW := hO
  obtain ⟨o1, o2, o3, o4, o5, o6, o7⟩ := hO
  cases e : okT n x
  · have hc := c65N hS hC.2.2.2.2.1 e
    exact Q_twoW (a := ((-1 : Int32), 2)) hC hM hW n4_2 (fun _ => ⟨_, hc, Upd.refl.wI rfl, by rw [mI_w, if_pos ⟨rfl, rfl⟩]⟩) (fun υ hυ => by
      show mQ υ (f183 102 x υ) (-1, 2)
      rw [m183N hυ.1.1 hυ.2.2.2.1 e]
      exact mQ_gd th_upd th_0)
  · obtain ⟨N, hN, rfl⟩ := okT_of hn9 e
    have okr := rAll_ok (f := f) (N := N) (N + 1) D0 0 D0_ok (by omega) (by omega)
    rw [show rAll f N (N + 1) D0 0 = rTxt f N from rfl] at okr
    obtain ⟨nx, n1, n2, n3⟩ := hC.2.2.1.2.2
    have mc := c65Y (ps := ps) (im := im) hS hC.2.2.2.2.1 hN ⟨nx, n1, n2⟩
    cases er : rTxt f N with
    | inl y =>
      rw [er] at mc
      obtain ⟨τ, t1, t2, t3, t4, t5, t6⟩ := mc
      have hM1 := MW_fr (Frm_upd hS t2 (fun a k ha => Pci_no a k (by omega))) hM
      have h115 := hM1.1.1.1
      have mm := m183Y hM1.1.1 hM1.2.2.2.1 o6 hN
      rw [er] at mm
      obtain ⟨υ, u1, u2, u3, u4, u5, u6, u7, u8, u9⟩ := mm
      have hC1 : CW τ C s ps na im ni 0 f 4 (nI y.1) (nI y.2) := by
        obtain ⟨⟨q1, q2, q3, q4, q5⟩, h2, h3, h4', h5, h6, h7, h8⟩ := hC
        have e : ∀ b k, 15 ≤ b → mI τ b k = mI σ b k := fun b k hb => t2.2.1 b k (Pci_no b k hb)
        have pn : ∀ b k, 15 ≤ b → Pci b k = false := Pci_no
        refine ⟨⟨t2.sh hS, (e 15 2 (by omega)).trans q2, cS_upd t2 (fun k => pn _ k (by omega)) (fun k => pn _ k (by omega)) (fun k => pn _ k (by omega)) q3, q4, fun hp => ?_⟩, ?_, cP_upd t2 (fun b k hb => pn b k (by omega)) h3, cI_upd t2 (fun b k hb => pn b k (by omega)) h4', ⟨by omega, t6, fun i hi => absurd hi (Nat.not_lt_zero i)⟩, t3, t4, fun _ => t5⟩
        · obtain ⟨x1, x2, x3⟩ := q5 hp
          exact ⟨cC_upd t2 (fun i k hi => pn _ k (by omega)) x1, x2, fun i hi => (e 22 i (by omega)).trans (x3 i hi)⟩
        · exact ⟨(e 15 0 (by omega)).trans h2.1, (e 15 1 (by omega)).trans h2.2.1, (e 15 2 (by omega)).trans h2.2.2.1, (e 15 3 (by omega)).trans h2.2.2.2.1, (e 15 4 (by omega)).trans h2.2.2.2.2.1, (e 15 5 (by omega)).trans h2.2.2.2.2.2.1, (e 15 6 (by omega)).trans h2.2.2.2.2.2.2⟩
      have hM2 : MW υ C s ps na im ni 0 f 4 (nI y.1) (nI y.2) := ⟨u2.qm rfl hM1.1, u2.mp h115 hM1.2.1, u2.mim h115 hM1.2.2.1, ⟨by omega, u7, fun i hi => absurd hi (Nat.not_lt_zero i)⟩, u4, u6, u5⟩
      have fc : Frc τ υ := ⟨hM2.1.1, fun a ha => u2.fn (by omega) (by omega)⟩
      exact ⟨_, τ, υ, t1, u1, ⟨t2.1.2.2.2.1, t2.1.2.2.2.2⟩, ⟨by omega, by omega, by omega⟩, C, s, ps, na, im, ni, 0, f, 4, nI y.1, nI y.2, CW_fr fc hC1, hM2, o1, o2, o3, o4, o5, fun i hi => absurd hi (Nat.not_lt_zero i), fun h => absurd rfl h⟩
    | inr D =>
      rw [er] at mc
      obtain ⟨τ, t1, t2, t3, t4, t5, t6, t7, t8, t9⟩ := mc
      obtain ⟨hO, hp0⟩ := okr.2 D er
      have hfm : Frm σ τ := ⟨t4.1, by rw [t3.2.2.2.1]; exact Nat.le_refl _, fun a ha _ => ⟨by rw [t3.1], by rw [t3.2.1], by rw [t3.2.2.1], funext (fun k => (t2 a k ha).1)⟩⟩
      have hM1 := MW_fr hfm hM
      have mm := m183Y hM1.1.1 hM1.2.2.2.1 o6 hN
      rw [er] at mm
      obtain ⟨υ, u1, u2, u3, u4, u5, u6, u7, u8, u9, ua, ub⟩ := mm
      have hC1 : CW τ (dC D) (told (dC D)) ps 0 im 0 0 f 0 0 (-1) := ⟨t4, (t4.2.2.2.2 hp0).1.1, t5, t6, ⟨by omega, t9, fun i hi => absurd hi (Nat.not_lt_zero i)⟩, t7, t8, fun h => absurd h n4_0⟩
      have hM2 : MW υ (dC D) (told (dC D)) ps 0 im 0 0 f 0 0 (-1) := ⟨u4, u5 ps, u6 im, ⟨by omega, ub, fun i hi => absurd hi (Nat.not_lt_zero i)⟩, u8, ua, u9⟩
      have fc : Frc τ υ := ⟨u4.1, fun a ha => funext (u3 a ha).2.2.1⟩
      have h99 : hr0 (dC D) ≤ 99 := hO.1.2.2.2.2.2.2.2.2.2.1
      exact ⟨_, τ, υ, t1, u1, ⟨t3.2.2.2.1, t3.2.2.2.2⟩, ⟨by omega, by omega, by omega⟩, dC D, told (dC D), ps, 0, im, 0, 0, f, 0, 0, -1, CW_fr fc hC1, hM2, hO.2.1, fun h => by omega, show hr0 (dC D) ≤ 999 by omega, fun i hi => absurd hi (Nat.not_lt_zero i), fun i hi => absurd hi (Nat.not_lt_zero i), fun i hi => absurd hi (Nat.not_lt_zero i), fun _ => rfl⟩
end WLD
