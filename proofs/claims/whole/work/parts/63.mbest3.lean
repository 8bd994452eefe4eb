/-! WHOM TO ASK: the reference's answers best, bestMean -/
section REF
variable {σ : xM} {c : Nat} {s : Sta} {C : Cty}
theorem phV_0 (can b : Nat) : ∀ n, phV can b n 0 = true := by
  intro n
  induction n with
  | zero => rfl
  | succ n ih =>
    rw [phV, Nat.zero_div, ih, Nat.zero_mod]
    rfl
theorem re_lv {s t : Sta} (h : lv s = lv t) : reN s = reN t := by unfold reN; rw [h]
theorem wh_lv {s t : Sta} (h : lv s = lv t) : whN s = whN t := by unfold whN; rw [h]
/-- the best code's row is the class's best row -/
theorem best_code (hO : OkC C) (hk : Ok (pe C) s) (hh : hr s ≤ 999) {p n b : Nat} (hp : p < pe C) (hpl : tb (lv s) p = true) (hn : n ≤ 3) (hb : b = pe C + 1) : ∃ k, riF (vmC C s p b n) (phV (aska C s p) b n) (b ^ n) = some k ∧ besK C s p n = phR b n k ∧ vmC C s p b n k * reN s = roV C s p (phR b n k) ∧ phV (aska C s p) b n k = true := by
  have h6 := hk.1
  obtain ⟨k, hk1⟩ := riF_ex (v := vmC C s p b n) (c := phV (aska C s p) b n) (i := 0) (phV_0 _ _ n) (N := b ^ n) (Nat.pow_pos (by omega))
  have hsc : ∀ x, x < b ^ n → phV (aska C s p) b n x = true → vmC C s p b n x * reN s = roV C s p (phR b n x) := fun x hx hv => by
    obtain ⟨k1, k2, -⟩ := phS_ok (b := b) hp hk hh n x hn hv
    unfold vmC roV
    rw [(ph_row (C := C) (s := s) (p := p) (b := b) (by omega) (by omega) hn hx).1, ← re_lv k2]
    exact me_ms hO k1 (by rw [k2]; exact hpl)
  obtain ⟨a1, a2, a3⟩ := riF_iff.mp hk1
  refine ⟨k, hk1, ?_, hsc k a1 a2, a2⟩
  have h1 : riF (fun x => roV C s p (phR b n x)) (phV (aska C s p) b n) (b ^ n) = some k := by
    rw [← riF_scale (re_pos s) hsc]
    exact hk1
  have h2 : riF (fun x => roV C s p (phR b n x)) (fun x => vrow (aska C s p) (phR b n x)) (b ^ n) = some k := by
    rw [← h1]
    exact (riF_congr (fun i hi => ⟨(ph_row (C := C) (s := s) (p := p) (b := b) (by omega) (by omega) hn hi).2 _, fun _ => rfl⟩)).1
  have hdig : ∀ d, vd (aska C s p) d = true → d < b := fun d hd => by
    rcases vd_gd hk hd with e | ⟨e1, e2, e3, -⟩ <;> omega
  have h3 := riF_codes (v := roV C s p) (c := vrow (aska C s p)) (by omega) (by omega) rfl (fun r hr hv j hj => by
    unfold vrow at hv
    simp only [Bool.and_eq_true] at hv
    rcases (by omega : j = 0 ∨ j = 1 ∨ j = 2) with rfl | rfl | rfl
    · rw [Nat.pow_zero, Nat.div_one]
      exact hdig _ hv.2.2
    · exact hdig _ hv.2.1
    · exact hdig _ hv.1) h2
  rw [best_all hp hk hh hn] at h3
  unfold besK
  rw [h3]
  rfl
/-- bestRow -/
theorem f225N (hT : hasT σ c) (hM : mC σ c C) (hO : OkC C) (hv : mrow (mI σ 104) (pe C) s) (hk : Ok (pe C) s) (hh : hr s ≤ 999) {p n : Nat} (hp : p < pe C) (hpl : tb (lv s) p = true) (hn : n ≤ 3) : ∃ τ m, f225 102 (nI p) (nI n) σ = some (nI (besK C s p n), τ) ∧ Upd Pbr σ τ ∧ mJ τ 102 26 = lN m ∧ m * reN s = roV C s p (besK C s p n) ∧ m ≤ 594 * 1000000000000 := by
  have h6 := hk.1
  obtain ⟨k, k1, k2, k3, k4⟩ := best_code hO hk hh hp hpl hn (b := pe C + 1) rfl
  have u0 : Upd Pbr σ (wJ σ 102 26 (-1)) := Upd.refl.wJ rfl
  have hT0 := u0.hasT hT
  obtain ⟨τ, t1, t2, t3⟩ := f225_54N hT0 (mC_lo u0 loBr hT.2.1.1 hM) hO (row_upd u0 (fun _ => rfl) hv) hk hh hp hpl hn rfl (by rw [mJ_wJ, if_pos ⟨rfl, rfl⟩])
  rw [k1] at t1 t3
  refine ⟨τ, vmC C s p (pe C + 1) n k, ?_, u0.trans t2, t3, by rw [k2]; exact k3, ?_⟩
  · have r1 : gR σ 102 9 3 = some c := (acG hT).1
    have r2 : gI σ c 8 2 = some (nI (pe C)) := by simp only [acT0 hT.2.1, hM.1.2.2.1]
    have r3 : cO σ 102 9 = some () := by simp only [acM hT.1]
    have r4 : pJ σ 102 9 26 (-1) = some (wJ σ 102 26 (-1)) := by simp only [acM hT.1]
    unfold f225
    rw [r1, Option.bind_some, r2, Option.bind_some, r3, Option.bind_some, f199N hT hM hO hv hk hp, Option.bind_some]
    simp only
    rw [r4, Option.bind_some, nI_1, k2]
    generalize wJ σ 102 26 (-1) = ω at t1
    have hpow : ∀ j, f225_33 (1100 - j) 102 (nI p) (nI n) (nI (pe C + 1)) (nI ((pe C + 1) ^ j)) (nI (aska C s p)) 0 (nI j) ω = some (nI (phR (pe C + 1) n k), τ) → True := fun _ _ => trivial
    refine lp (fun m j => f225_33 m 102 (nI p) (nI n) (nI (pe C + 1)) (nI ((pe C + 1) ^ j)) (nI (aska C s p)) 0 (nI j) ω) n (fun j hj m r hn' => ?_) (fun m => ?_) n 1100 0 (by omega) (by omega)
    · have hn' : f225_33 m 102 (nI p) (nI n) (nI (pe C + 1)) (nI ((pe C + 1) ^ (j + 1))) (nI (aska C s p)) 0 (nI (j + 1)) ω = r := hn'
      show f225_33 (m + 1) _ _ _ _ _ _ _ _ _ = _
      rw [f225_33, if_neg (nI_ge hj (by omega)), pk_mul, nI_1, ← Nat.pow_succ]
      exact hn'
    · show f225_33 (m + 1) _ _ _ _ _ _ _ _ _ = _
      rw [f225_33, if_pos (nI_le (by omega) (by omega))]
      exact t1
  · obtain ⟨s1, s2, -⟩ := phS_ok (b := pe C + 1) hp hk hh n k hn k4
    exact ms_le hO s1 (by rw [s2]; exact hpl)
theorem f226N (h : QM σ C s) (p x : Int32) {lo_ hi : Int32} : f226 102 p x lo_ hi σ = some (skOr (pe C) s p (okN lo_ hi x), σ) := by
  obtain ⟨hS, hk, hv, hc⟩ := id h
  unfold f226 f226_45 skOr okN
  simp only [acM hS, Option.bind_some, f186Q h, bo_0, f156N, litM, show 42 < 47 by omega, hv.2.2.1]
  cases e : isP (pe C) p
  · simp
  · obtain ⟨j, hj, rfl⟩ := isP_nI hk.1 e
    have hj6 : j < 6 := by have := hk.1; omega
    rw [if_neg (by simp), if_pos rfl, pN_nI hj6]
    simp only [f157N hk.lv64 hj6, Option.bind_some, bo_0]
    by_cases e1 : x < lo_ ∨ hi < x
    · simp [e1]
    · cases tb (lv s) j <;> simp [e1]
theorem skOr_le {n : Nat} {s : Sta} {p : Int32} {b : Bool} : (skOr n s p b ≤ 0) = (skOr n s p b = 0) := by
  unfold skOr
  split
  · split
    · split <;> simp
    · simp
  · simp
theorem m227 (h : QM σ C s) (hh : hr s ≤ 999) (p x : Int32) : mQ σ (f227 102 p x σ) (aBes C s p x) := by
  have h1 := QM_upd th_upd h
  obtain ⟨hS1, hk, hv1, hc1⟩ := id h1
  unfold f227 f227_36 aBes
  simp only [acM h.1, Option.bind_some]
  rw [show wI σ 102 0 0 = th σ from rfl]
  simp only [acM hS1, Option.bind_some, f226N h1, skOr_le, f151N hS1]
  by_cases e : skOr (pe C) s p (okN 1 3 x) = 0
  · obtain ⟨hb, j, hj, rfl, hl⟩ := skOr_0 hk e
    have hj6 : j < 6 := by have := hk.1; omega
    obtain ⟨n, n1, n2, rfl⟩ := okN_of (lo_ := 1) (hi := 3) (by decide) (by decide) hb
    obtain ⟨c, hg, hT, hM, hO⟩ := isC h (show 0 < pe C by omega)
    obtain ⟨τ, m, t1, t2, t3, t4, t5⟩ := f225N hT hM hO hv1 hk hh hj hl n2
    have hS2 := t2.sh hS1
    rw [if_pos e, if_pos e, pN_nI hj6, show pN (nI n) = n from nI_clamp (by omega)]
    simp only [t1, Option.bind_some, acM hS2, f154N hS2]
    exact mQ_gd (th_upd.trans (br_Q t2)) ((t2.2.1 102 0 rfl).trans th_0)
  · rw [if_neg e, if_neg e]
    exact mQ_gd th_upd th_0
theorem m228 (h : QM σ C s) (hh : hr s ≤ 999) (p x b : Int32) : mQ σ (f228 102 p x b σ) (aBem C s p x b) := by
  have h1 := QM_upd th_upd h
  obtain ⟨hS1, hk, hv1, hc1⟩ := id h1
  unfold f228 aBem
  simp only [acM h.1, Option.bind_some]
  rw [show wI σ 102 0 0 = th σ from rfl]
  simp only [acM hS1, Option.bind_some, f226N h1, skOr_le, f151N hS1]
  by_cases e : skOr (pe C) s p (okN 1 3 x) = 0
  · obtain ⟨hb, j, hj, rfl, hl⟩ := skOr_0 hk e
    have hj6 : j < 6 := by have := hk.1; omega
    obtain ⟨n, n1, n2, rfl⟩ := okN_of (lo_ := 1) (hi := 3) (by decide) (by decide) hb
    obtain ⟨c, hg, hT, hM, hO⟩ := isC h (show 0 < pe C by omega)
    obtain ⟨τ, m, t1, t2, t3, t4, t5⟩ := f225N hT hM hO hv1 hk hh hj hl n2
    have hT2 := t2.hasT hT
    have hM2 := mC_lo t2 loBr hT.2.1.1 hM
    have hA := wk_AM hT2 hM2 hO (row_upd (a := 104) t2 (fun _ => rfl) hv1) hk
    have hfw := f188N (σ := τ) hT2.1
    have uw := br_5 (wk_upd (σ := τ))
    have h26w : mJ (wk τ) 102 26 = lN m := (wk_upd.2.2 102 26 rfl).trans t3
    have h0w : mI (wk τ) 102 0 = 0 := (wk_upd.2.1 102 0 rfl).trans ((t2.2.1 102 0 rfl).trans th_0)
    rw [if_pos e, if_pos e, pN_nI hj6, show pN (nI n) = n from nI_clamp (by omega)]
    simp only [t1, Option.bind_some, acM hT2.1, hfw]
    generalize wk τ = ω at hA hfw uw h26w h0w
    obtain ⟨υ, v1, v2, v3⟩ := f218N hA
    have hSυ := v2.sh hA.1.1
    have h26u : mJ υ 102 26 = lN m := (v2.2.2 102 26 rfl).trans h26w
    simp only [acM hA.1.1, Option.bind_some, v1, acM hSυ, h26u, v3]
    rw [f160N hSυ (Nat.lt_of_le_of_lt t5 (by decide)) (Nat.lt_of_le_of_lt (wh_le s).1 (by decide)) (wh_le s).2, Option.bind_some, ← fra_sure, t4]
    exact mQ_gd (th_upd.trans (br_Q (t2.trans (uw.trans (br_me (me_25 v2)))))) ((v2.2.1 102 0 rfl).trans h0w)
  · rw [if_neg e, if_neg e]
    exact mQ_gd th_upd th_0
end REF
