/-! ACTS: the reference's ask, die, night, seed -/
section REF
variable {σ : xM} {c n : Nat} {s : Sta} {C : Cty} {ps im : Nat → Sta} {na ni : Nat}
theorem P105_A {τ : xM} (h : Upd P105 σ τ) : Upd PmA σ τ := mA_Q (P105_Q h)
/-- the row that is worked on stays; the call is good -/
theorem endA {τ : xM} {x : Int32} {s' : Sta} {ps' : Nat → Sta} {na' : Nat} (hu : Upd PmA σ τ) (h0 : mI τ 102 0 = 0) (hS : Sh τ) (hn : pe C ≤ 6) (hx : mrow (mI τ 105) (pe C) s') (hP : mP τ (pe C) ps' na') (hI : mIm τ (pe C) im ni) : mA σ C (some (x, gd (stw τ) 0)) (x, 0, s', ps', na', im, ni) := by
  have ug : Upd (fun a k => Nat.beq a 102 && (Nat.beq k 1 || Nat.beq k 2)) (stw τ) (gd (stw τ) 0) := (Upd.refl.wI rfl).wI rfl
  have uq : Upd PmQ (stw τ) (gd (stw τ) 0) := (Upd.refl.wI rfl).wI rfl
  have hr := stw_row hx hn
  have hP1 := mP_upd (stw_upd (σ := τ)) rfl (fun _ => rfl) hP
  have hI1 := mIm_upd (stw_upd (σ := τ)) rfl (fun _ => rfl) hI
  have h01 : mI (stw τ) 102 0 = 0 := (stw_upd.2.1 102 0 rfl).trans h0
  have us : Upd PmA σ (stw τ) := hu.trans (mA_104 stw_upd)
  generalize stw τ = υ at ug uq hr hP1 hI1 h01 us
  refine ⟨_, rfl, us.trans (mA_Q uq), ?_, ?_, ?_, row_upd ug (fun _ => rfl) hr, mP_upd ug rfl (fun _ => rfl) hP1, mIm_upd ug rfl (fun _ => rfl) hI1⟩
  · unfold gd
    rw [mI_w, if_neg (fun h => absurd h.2 (by decide)), mI_w, if_pos ⟨rfl, rfl⟩]
  · unfold gd
    rw [mI_w, if_pos ⟨rfl, rfl⟩]
  · rw [ug.2.1 102 0 rfl]
    exact h01
/-- an act begins: it is remembered, and the row is taken up -/
theorem begA (h : QM σ C s) (hp : 0 < pe C) (hP : mP σ (pe C) ps na) (hI : mIm σ (pe C) im ni) : ∃ c τ, f261 102 (th σ) = some τ ∧ Sh τ ∧ f188 102 τ = some (wk τ) ∧ AM (wk τ) c C s ∧ Upd PmA σ (wk τ) ∧ mI (wk τ) 102 0 = 0 ∧ mP (wk τ) (pe C) (consS s ps) (min (na + 1) 16) ∧ mIm (wk τ) (pe C) im ni := by
  have h1 := QM_upd th_upd h
  obtain ⟨hS1, hk, hv1, hc1⟩ := id h1
  obtain ⟨c, hg, hT, hM, hO⟩ := isC h hp
  obtain ⟨τ, t1, t2, t3⟩ := f261N hS1 hk.1 hv1 (mP_upd th_upd rfl (fun _ => rfl) hP)
  have hTτ := t2.hasT hT
  have hMτ : mC τ c C := mC_lo t2 (fun a k ha => by
    unfold P106
    rw [beqF (show a ≠ 106 by omega), beqF (show a ≠ 102 by omega)]
    rfl) hT.2.1.1 hM
  have hvτ := row_upd (a := 104) t2 (fun _ => rfl) hv1
  have hIτ := mIm_upd t2 rfl (fun _ => rfl) (mIm_upd th_upd rfl (fun _ => rfl) hI)
  refine ⟨c, τ, t1, t2.sh hS1, f188N (t2.sh hS1), wk_AM hTτ hMτ hO hvτ hk, (mA_Q th_upd).trans ((mA_106 t2).trans (P105_A wk_upd)), ?_, mP_upd wk_upd rfl (fun _ => rfl) t3, mIm_upd wk_upd rfl (fun _ => rfl) hIτ⟩
  rw [wk_upd.2.1 102 0 rfl, t2.2.1 102 0 rfl]
  exact th_0
theorem m263 (h : QM σ C s) (hh : hr s ≤ 999) (hP : mP σ (pe C) ps na) (hI : mIm σ (pe C) im ni) (p q : Int32) : mA σ C (f263 102 p q σ) (aAsk C s ps na im ni p q) := by
  have h1 := QM_upd th_upd h
  obtain ⟨hS1, hk, hv1, hc1⟩ := id h1
  have href : ∀ r, mA σ C (some (-1, gd (th σ) r)) (-1, r, s, ps, na, im, ni) := fun r => mA_of (x := (-1, r)) h hP hI (mQ_gd th_upd th_0)
  unfold f263 f263_48 aAsk
  simp only [acM h.1, Option.bind_some]
  rw [show wI σ 102 0 0 = th σ from rfl]
  simp only [acM hS1, Option.bind_some, f187Q h1, bo_0, litM, show 42 < 47 by omega, hv1.2.2.1, f151N hS1]
  unfold askT
  cases e : two (pe C) p q
  · rw [if_pos rfl, if_neg (by simp), if_neg (by decide)]
    exact href 1
  · obtain ⟨i, j, hi, hj, rfl, rfl, hij⟩ := two_of hk.1 e
    have h6 := hk.1
    have hi6 : i < 6 := by omega
    have hj6 : j < 6 := by omega
    obtain ⟨c, hg, hT, hM, hO⟩ := isC h (show 0 < pe C by omega)
    rw [if_neg (by simp), if_pos rfl, pN_nI hi6, pN_nI hj6]
    simp only [f157N hk.lv64 hi6, Option.bind_some, bo_0, acM hS1, litM, show 42 < 47 by omega, show 44 < 47 by omega, hv1.2.2.1, f157N hk.lv64 hj6, f151N hS1, acG hT, acT0 hT.2.1, f148N hT hM hO hi hj hij, hv1.2.2.2.2.1, show (999 : Int32) = nI 999 from rfl, nI_eq (show hr s < 2 ^ 31 by omega) (show 999 < 2 ^ 31 by omega)]
    cases e1 : tb (lv s) i
    · simpa using href 5
    · cases e2 : tb (lv s) j
      · simpa using href 5
      · cases e3 : alw C i j
        · simpa using href 6
        · by_cases e4 : hr s = 999
          · have : ¬ hr s < 999 := by omega
            simpa [e4] using href 3
          · have e5 : hr s < 999 := by omega
            obtain ⟨c, τ, t1, t2, t3, t4, t5, t6, t7, t8⟩ := begA h (show 0 < pe C by omega) hP hI
            rw [if_neg (by simp), if_neg (by simp), if_neg (by simp), if_neg e4, if_pos (by simp [e5])]
            simp only [t1, Option.bind_some, acM t2, t3]
            generalize wk τ = ω at t3 t4 t5 t6 t7 t8
            obtain ⟨υ, v1, v2, v3⟩ := f224N t4 hi hj hij
            have hSω := t4.1.1
            have hSυ := v2.sh hSω
            have hfs := f262N hSυ
            have hw : mI ω 105 i = nI (hs s i) := t4.2.2.2.1.1 i hi
            have hst : mI (stw υ) 104 i = nI (hs s i + gvn s (gv C) j) := by
              have := (stw_row v3 h6).1 i hi
              rw [this]
              show nI (upN (upN (hs s) j _) i _ i) = _
              unfold upN
              rw [if_pos rfl]
            have hSs : Sh (stw υ) := stw_upd.sh hSυ
            have hE := endA (σ := σ) (C := C) (x := nI (gvn s (gv C) j)) (t5.trans (P105_A v2)) ((v2.2.1 102 0 rfl).trans t6) hSυ h6 v3 (mP_upd v2 rfl (fun _ => rfl) t7) (mIm_upd v2 rfl (fun _ => rfl) t8)
            generalize stw υ = ξ at hfs hst hSs hE
            simp only [acM hSω, Option.bind_some, show i < 47 by omega, hw, v1, acM hSυ, hfs, acM hSs, hst, f154N hSs]
            rw [pk_sub (show hs s i ≤ hs s i + gvn s (gv C) j by omega), show hs s i + gvn s (gv C) j - hs s i = gvn s (gv C) j by omega]
            exact hE
theorem m264 (h : QM σ C s) (hP : mP σ (pe C) ps na) (hI : mIm σ (pe C) im ni) (p : Int32) : mA σ C (f264 102 p σ) (aDie (pe C) s ps na im ni p) := by
  have h1 := QM_upd th_upd h
  obtain ⟨hS1, hk, hv1, hc1⟩ := id h1
  have href : ∀ r, mA σ C (some (-1, gd (th σ) r)) (-1, r, s, ps, na, im, ni) := fun r => mA_of (x := (-1, r)) h hP hI (mQ_gd th_upd th_0)
  unfold f264 aDie
  simp only [acM h.1, Option.bind_some]
  rw [show wI σ 102 0 0 = th σ from rfl]
  simp only [acM hS1, Option.bind_some, f203Q h1, lvOr_le, f151N hS1]
  by_cases e : lvOr (pe C) s p = 0
  · obtain ⟨j, hj, rfl, hl⟩ := lvOr_0 hk e
    have h6 := hk.1
    have hj6 : j < 6 := by omega
    obtain ⟨c, τ, t1, t2, t3, t4, t5, t6, t7, t8⟩ := begA h (show 0 < pe C by omega) hP hI
    rw [if_pos e, if_pos e, pN_nI hj6]
    simp only [t1, Option.bind_some, acM t2, t3]
    generalize wk τ = ω at t3 t4 t5 t6 t7 t8
    obtain ⟨υ, v1, v2, v3⟩ := f196N t4 (pow64 hj6) (sub_pow hl) false
    have hSω := t4.1.1
    have hSυ := v2.sh hSω
    have hfs := f262N hSυ
    have hSs : Sh (stw υ) := stw_upd.sh hSυ
    have hE := endA (σ := σ) (C := C) (x := ob (hN s j)) (t5.trans (mA_Q (da_Q v2))) ((v2.2.1 102 0 rfl).trans t6) hSυ h6 v3 (mP_upd v2 rfl (fun _ => rfl) t7) (mIm_upd v2 rfl (fun _ => rfl) t8)
    generalize stw υ = ξ at hfs hSs hE
    rw [show bo false = 0 from rfl] at v1
    simp only [acM hSω, Option.bind_some, f192N t4.1 t4.2.1.1.2.2.1 t4.2.2.2.1 hk hj6, shlN j hj6, v1, acM hSυ, hfs, acM hSs, f154N hSs]
    rw [hei_N hl]
    exact hE
  · rw [if_neg e, if_neg e]
    exact href _
end REF
