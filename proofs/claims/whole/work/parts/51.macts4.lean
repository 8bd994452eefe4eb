/-! ACTS: the reference's night, seed, undo, image, back -/
section REF
variable {σ : xM} {c n : Nat} {s : Sta} {C : Cty} {ps im : Nat → Sta} {na ni : Nat}
theorem nsd_nup (C : Cty) (s : Sta) : ∀ j, nsd C (nup s) j = nsd C s j := by
  intro j
  induction j with
  | zero => rfl
  | succ j ih =>
    unfold nsd
    rw [ih]
    rfl
theorem ngt_nup (C : Cty) (s : Sta) : leaC (ssd s (nsd C s 6).1) (ngD C s) true = ngt C (nup s) := by
  unfold ngt ngD
  rw [nsd_nup]
  rfl
theorem m265 (h : QM σ C s) (hP : mP σ (pe C) ps na) (hI : mIm σ (pe C) im ni) : mA σ C (f265 102 σ) (aNgt C s ps na im ni) := by
  have h1 := QM_upd th_upd h
  obtain ⟨hS1, hk, hv1, hc1⟩ := id h1
  have b7 := hk.2.2.2.2.2.2.1
  have href : ∀ r, mA σ C (some (-1, gd (th σ) r)) (-1, r, s, ps, na, im, ni) := fun r => mA_of (x := (-1, r)) h hP hI (mQ_gd th_upd th_0)
  unfold f265 aNgt nigT
  simp only [acM h.1, Option.bind_some]
  rw [show wI σ 102 0 0 = th σ from rfl]
  by_cases e : 0 < pe C
  · obtain ⟨c0, hg, -⟩ := isC h e
    have h6 := hk.1
    simp only [hg, Option.bind_some, acM hS1, litM, show 45 < 47 by omega, hv1.2.2.2.2.2.1, show (999 : Int32) = nI 999 from rfl, nI_eq (show ng s < 2 ^ 31 by omega) (show 999 < 2 ^ 31 by omega), f151N hS1]
    by_cases e2 : ng s = 999
    · have : ¬ ng s < 999 := by omega
      rw [if_pos e2, if_pos e, if_neg this, if_neg (by decide)]
      exact href 3
    · have e3 : ng s < 999 := by omega
      obtain ⟨c, τ, t1, t2, t3, t4, t5, t6, t7, t8⟩ := begA h e hP hI
      rw [if_neg e2, if_pos e, if_pos e3, if_pos rfl]
      simp only [t1, Option.bind_some, acM t2, t3]
      generalize wk τ = ω at t3 t4 t5 t6 t7 t8
      obtain ⟨υ, v1, v2, v3⟩ := f255N t4 true
      rw [ngt_nup] at v3
      rw [show bo true = 1 from rfl] at v1
      have hSω := t4.1.1
      have hSυ := v2.sh hSω
      have hfs := f262N hSυ
      have hSs : Sh (stw υ) := stw_upd.sh hSυ
      have eD : ngD C s = ngD C (nup s) := by unfold ngD; rw [nsd_nup]
      have hE := endA (σ := σ) (C := C) (x := nI (ngD C (nup s))) (t5.trans (mA_Q (da_Q v2))) ((v2.2.1 102 0 rfl).trans t6) hSυ h6 v3 (mP_upd v2 rfl (fun _ => rfl) t7) (mIm_upd v2 rfl (fun _ => rfl) t8)
      rw [eD] at v1
      generalize stw υ = ξ at hfs hSs hE
      simp only [acM hSω, Option.bind_some, v1, acM hSυ, hfs, acM hSs, f154N hSs]
      exact hE
  · rw [if_neg e, if_neg (by decide)]
    simp only [noC h e, Option.bind_some, acM hS1, f151N hS1]
    exact href 1
theorem f153N (hS : Sh σ) (r : Int32) : f153 102 r σ = some (0, gd σ r) := by
  unfold f153
  simp only [acM hS, Option.bind_some, f151N hS, rZ_0]
theorem f155N (hS : Sh σ) : f155 102 σ = some (1, gd σ 0) := by
  unfold f155
  simp only [acM hS, Option.bind_some, f154N hS, rZ_1]
/-- a call is good, its row being v's -/
theorem goodA {τ : xM} {x : Int32} {s' : Sta} {ps' im' : Nat → Sta} {na' ni' : Nat} (hu : Upd PmA σ τ) (h0 : mI τ 102 0 = 0) (hx : mrow (mI τ 104) (pe C) s') (hP : mP τ (pe C) ps' na') (hI : mIm τ (pe C) im' ni') : mA σ C (some (x, gd τ 0)) (x, 0, s', ps', na', im', ni') := by
  have ug : Upd (fun a k => Nat.beq a 102 && (Nat.beq k 1 || Nat.beq k 2)) τ (gd τ 0) := (Upd.refl.wI rfl).wI rfl
  have uq : Upd PmQ τ (gd τ 0) := (Upd.refl.wI rfl).wI rfl
  refine ⟨_, rfl, hu.trans (mA_Q uq), ?_, ?_, ?_, row_upd ug (fun _ => rfl) hx, mP_upd ug rfl (fun _ => rfl) hP, mIm_upd ug rfl (fun _ => rfl) hI⟩
  · unfold gd
    rw [mI_w, if_neg (fun h => absurd h.2 (by decide)), mI_w, if_pos ⟨rfl, rfl⟩]
  · unfold gd
    rw [mI_w, if_pos ⟨rfl, rfl⟩]
  · rw [ug.2.1 102 0 rfl]
    exact h0
theorem row_ssd4 {x : Nat} (h : mrow (mI σ 104) n s) (hn : n ≤ 6) : mrow (mI (wI σ 104 46 (nI x)) 104) n (ssd s x) := by
  obtain ⟨c1, c2, c3, c4, c5, c6, c7⟩ := h
  refine ⟨fun p hp => ?_, fun p hp q hq => ?_, ?_, ?_, ?_, ?_, ?_⟩
  · rw [mI_w, if_neg (by omega)]; exact c1 p hp
  · rw [mI_w, if_neg (by omega)]; exact c2 p hp q hq
  · rw [mI_w, if_neg (by omega)]; exact c3
  · rw [mI_w, if_neg (by omega)]; exact c4
  · rw [mI_w, if_neg (by omega)]; exact c5
  · rw [mI_w, if_neg (by omega)]; exact c6
  · rw [mI_w, if_pos ⟨rfl, rfl⟩]; rfl
theorem tI104 {x : Int32} (hS : Sh σ) : tI σ 104 46 x = some (wI σ 104 46 x) := tI_nI (j := 46) (sh_a hS (by decide) rfl rfl) (by decide) (by decide)
theorem m266 (h : QM σ C s) (hP : mP σ (pe C) ps na) (hI : mIm σ (pe C) im ni) (x : Int32) : mA σ C (f266 102 x σ) (aSed (pe C) s ps na im ni x) := by
  have h1 := QM_upd th_upd h
  obtain ⟨hS1, hk, hv1, hc1⟩ := id h1
  have href : ∀ r, mA σ C (some (0, gd (th σ) r)) (0, r, s, ps, na, im, ni) := fun r => mA_of (x := (0, r)) h hP hI (mQ_gd th_upd th_0)
  have hP1 := mP_upd (th_upd (σ := σ)) rfl (fun _ => rfl) hP
  have hI1 := mIm_upd (th_upd (σ := σ)) rfl (fun _ => rfl) hI
  have hu1 : Upd PmA σ (th σ) := mA_Q th_upd
  have h01 : mI (th σ) 102 0 = 0 := th_0
  unfold f266 aSed
  simp only [acM h.1, Option.bind_some]
  rw [show wI σ 102 0 0 = th σ from rfl]
  by_cases e : 0 < pe C
  · obtain ⟨c0, hg, -⟩ := isC h e
    have ed : sedT (pe C) x = if x < 0 ∨ 65536 < x then 2 else 0 := by unfold sedT; rw [if_pos e]
    simp only [hg, Option.bind_some, f156N, bo_0, acM hS1, f153N hS1, rZ_0]
    by_cases e2 : x < 0 ∨ 65536 < x
    · rw [if_pos (by simp [e2]), ed, if_pos e2, if_neg (by decide)]
      exact href 2
    · rw [if_neg (by simp [e2]), ed, if_neg e2, if_pos rfl]
      obtain ⟨-, a, ha, rfl⟩ := sedT_0 (show sedT (pe C) x = 0 by rw [ed, if_neg e2])
      generalize th σ = ω at h1 hS1 hv1 hP1 hI1 hu1 h01
      have hS2 : Sh (wI ω 104 46 (nI a)) := hS1
      have q1 : cO (wI ω 104 46 (nI a)) 102 9 = some () := by simp only [acM hS2]
      rw [tI104 hS1, Option.bind_some, q1, Option.bind_some, f155N hS2, Option.bind_some, pN_any ha]
      show mA σ C (some (1, gd (wI ω 104 46 (nI a)) 0)) _
      exact goodA (hu1.wI rfl) (by rw [mI_w, if_neg (by omega)]; exact h01) (row_ssd4 hv1 hk.1) (mP_upd (P := P104) (Upd.refl.wI rfl) rfl (fun _ => rfl) hP1) (mIm_upd (P := P104) (Upd.refl.wI rfl) rfl (fun _ => rfl) hI1)
  · rw [show sedT (pe C) x = 1 by unfold sedT; rw [if_neg e], if_neg (by decide)]
    simp only [noC h e, Option.bind_some, acM hS1, f153N hS1, rZ_0]
    exact href 1
end REF
