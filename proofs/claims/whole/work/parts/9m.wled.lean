/-! THE WORLD: led -/
/-- a world whose state NOW is s -/
def WdS (σ : xM) (s : Sta) : Prop := ∃ C ps na im ni n f r ft wh, CW σ C s ps na im ni n f r ft wh ∧ MW σ C s ps na im ni n f r ft wh ∧ OW C s ps na im ni n f r wh
theorem Wd_S {σ : xM} (h : Wd σ) : ∃ s, WdS σ s := by
  obtain ⟨C, s, h⟩ := h
  exact ⟨s, C, h⟩
theorem WdS.wd {σ : xM} {s : Sta} (h : WdS σ s) : Wd σ := by
  obtain ⟨C, h⟩ := h
  exact ⟨C, s, h⟩
theorem WdS.now {σ : xM} {s : Sta} (h : WdS σ s) : ∃ n, Sh σ ∧ cS σ 26 n s ∧ Ok n s := by
  obtain ⟨C, ps, na, im, ni, n, f, r, ft, wh, hC, hM, hO⟩ := h
  exact ⟨pe C, hC.1.1, hC.1.2.2.1, hC.1.2.2.2.1⟩
theorem WdS.fr {σ τ : xM} {s : Sta} (h : WdS σ s) (h1 : Frc σ τ) (h2 : Frm σ τ) : WdS τ s := by
  obtain ⟨C, ps, na, im, ni, n, f, r, ft, wh, hC, hM, hO⟩ := h
  exact ⟨C, ps, na, im, ni, n, f, r, ft, wh, CW_fr h1 hC, MW_fr h2 hM, hO⟩
theorem WdS.new {σ : xM} {s : Sta} {c n u : Nat} (h : WdS σ s) : WdS (sNew σ c n u) s := by
  obtain ⟨_, hS, -, -⟩ := h.now
  have h115 := hS.1
  have hS1 : Sh (sNew σ c n u) := by
    refine Old.sh (m := mN σ) (σ := σ) (fun a ha => ⟨?_, ?_, fun k => ?_, fun k => ?_, fun k => ?_⟩) h115 (by show 115 ≤ mN σ + 1; omega) hS
    · rw [mK_n, if_neg (by omega)]
    · rw [mL_n, if_neg (by omega)]
    · rw [mI_n, if_neg (by omega)]
    · rw [mJ_n, if_neg (by omega)]
    · rw [mR_n, if_neg (by omega)]
  refine h.fr ⟨hS1, fun a ha => funext (fun k => ?_)⟩ ⟨hS1, by show mN σ ≤ mN σ + 1; omega, fun a _ ha => ⟨?_, ?_, funext (fun k => ?_), funext (fun k => ?_)⟩⟩
  · rw [mI_n, if_neg (by omega)]
  · rw [mK_n, if_neg (by omega)]
  · rw [mL_n, if_neg (by omega)]
  · rw [mR_n, if_neg (by omega)]
  · rw [mI_n, if_neg (by omega)]
/-- a long is written: no side's world speaks of one -/
theorem WdS_wJ {σ : xM} {s : Sta} {a k : Nat} {x : Int64} (h : WdS σ s) : WdS (wJ σ a k x) s := by
  obtain ⟨_, hS, -, -⟩ := h.now
  exact h.fr ⟨hS, fun _ _ => rfl⟩ ⟨hS, Nat.le_refl _, fun _ _ _ => ⟨rfl, rfl, rfl, rfl⟩⟩
/-- the class's half of led leaves the wills anew -/
theorem WdS_wl {σ : xM} {s : Sta} (h : WdS σ s) : WdS (wl σ s) s := by
  obtain ⟨C, ps, na, im, ni, n, f, r, ft, wh, hC, hM, hO⟩ := h
  have hS := hC.1.1
  have u : Upd (fun a _ => Nat.beq a 93) σ (wl σ s) := wl_upd Upd.refl (fun _ => rfl)
  have pn : ∀ a k, a ≠ 93 → (fun a (_ : Nat) => Nat.beq a 93) a k = false := fun a k h => beqF h
  have e : ∀ a k, a ≠ 93 → mI (wl σ s) a k = mI σ a k := fun a k h => u.2.1 a k (pn a k h)
  refine ⟨C, ps, na, im, ni, n, f, r, ft, wh, ?_, MW_fr (Frm_upd hS u (fun a k ha => pn a k (by omega))) hM, hO⟩
  obtain ⟨⟨q1, q2, q3, q4, q5⟩, h2, h3, h4', h5, h6, h7, h8⟩ := hC
  refine ⟨⟨u.sh hS, (e 15 2 (by omega)).trans q2, cS_upd u (fun k => pn _ k (by omega)) (fun k => pn _ k (by omega)) (fun k => pn _ k (by omega)) q3, q4, fun hp => ?_⟩, ?_, cP_upd u (fun b k hb => pn b k (by omega)) h3, cI_upd u (fun b k hb => pn b k (by omega)) h4', ⟨h5.1, (e 1 0 (by omega)).trans h5.2.1, fun i hi => (e 13 i (by omega)).trans (h5.2.2 i hi)⟩, (e 0 8 (by omega)).trans h6, (e 0 9 (by omega)).trans h7, fun hr => (e 1 1 (by omega)).trans (h8 hr)⟩
  · obtain ⟨x1, x2, x3⟩ := q5 hp
    exact ⟨cC_upd u (fun i k hi => pn _ k (by omega)) x1, x2, fun i hi => (e 22 i (by omega)).trans (x3 i hi)⟩
  · exact ⟨(e 15 0 (by omega)).trans h2.1, (e 15 1 (by omega)).trans h2.2.1, (e 15 2 (by omega)).trans h2.2.2.1, (e 15 3 (by omega)).trans h2.2.2.2.1, (e 15 4 (by omega)).trans h2.2.2.2.2.1, (e 15 5 (by omega)).trans h2.2.2.2.2.2.1, (e 15 6 (by omega)).trans h2.2.2.2.2.2.2⟩
/-- the reference's half, and what the law then asks it -/
theorem w270 {σ : xM} {s : Sta} (h : WdS σ s) (i : Int32) : ∃ υ, f270 102 i σ = some (ledI (ledX s i), υ) ∧ f150 102 υ = some (ledT (ledX s i), υ) ∧ (mN υ = mN σ ∧ mU υ = mU σ) ∧ WdS υ s := by
  obtain ⟨C, ps, na, im, ni, n, f, r, ft, wh, hC, hM, hO⟩ := h
  obtain ⟨υ, u1, u2, u3, u4, u5⟩ := m270 hM.1 i
  have hSu := u2.sh hC.1.1
  refine ⟨υ, u1, ?_, ⟨u2.1.2.2.2.1, u2.1.2.2.2.2⟩, C, ps, na, im, ni, n, f, r, ft, wh, CW_fr (Q_fc hC.1.1 u2) hC, MW_Q u2 (u4.trans hM.2.2.2.2.1) (u5.trans hM.2.2.2.2.2.2) hM, hO⟩
  unfold f150
  simp only [acM hSu, Option.bind_some, u3]
