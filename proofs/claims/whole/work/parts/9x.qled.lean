/-! the law's case of led -/
theorem w270J {σ : xM} {s : Sta} (h : WdS σ s) (i : Int32) : ∃ υ, f270 102 i σ = some (ledI (ledX s i), υ) ∧ f150 102 υ = some (ledT (ledX s i), υ) ∧ (mN υ = mN σ ∧ mU υ = mU σ) ∧ WdS υ s ∧ mJ υ 115 = mJ σ 115 := by
  obtain ⟨υ, h1, h2, h3, h4⟩ := w270 h i
  obtain ⟨C, ps, na, im, ni, n, f, r, ft, wh, hC, hM, hO⟩ := h
  obtain ⟨υ', u1, u2, -⟩ := m270 hM.1 i
  rw [h1] at u1
  cases u1
  exact ⟨υ, h1, h2, h3, h4, funext (fun k => u2.2.2 115 k rfl)⟩
set_option maxRecDepth 30000 in
theorem kw_ml : Cond.methodLink "LastAskedLaw" 217 kLed ∈ xTs := xTs_of (x_t 919 rfl) rfl
set_option maxRecDepth 30000 in
theorem kw_ms : Cond.static kLed ∈ xTs := xTs_of (x_t 920 rfl) rfl
set_option maxRecDepth 30000 in
theorem kw_mi : Cond.initialized "LastAskedLaw" ∈ xTs := xTs_of (x_t 0 rfl) rfl
theorem kw_mg : (parseMethodDescriptor kLed.desc).map (fun q => q.parameters.length) = some 3 := by decide +kernel
section QL
variable {p : Program} {l : Launch} {e : Env} {s : State} {m : MethodId} {below : List Frame} {meth : Method} {c : Code} {Q : State → Prop} {dd : va_G} {cy : Nat → ClassId} {z : Nat} {sa : UInt32 → Nat} {av : Nat → Nat} {b L : Nat} {xs : Nat → Int32} {j : Nat} {i : Int32} {pc : Nat} {σ σ1 : xM} {st : List Value}
theorem g_ledc {d mc ms : Nat} {x r : Int32} (C : GC p l s m c dd cy z sa av b L xs) (hM : Met l kLed kWs (xRm d mc ms) (va_Pc [.ref (z + 0), .int x, .ref (z + 115)] (xRel dd cy z sa (jZ z sa av) σ)) (xQ dd cy z sa (jZ z sa av) (some (.int r)) σ1) mc ms (fun q => z ≤ q)) (hd : d + 1 ≤ 16 ∧ 8 + (4 + 11) + 42 * d ≤ 598) (hmc : mN σ + mc = mN σ1 ∧ mU σ + ms = mU σ1) (hcap : mN σ1 ≤ 601024 ∧ mU σ1 ≤ 7293034) (hdg : decode code pc = .ok (.invokestatic 217, 3))
    (kk : lW p l e s m below meth c Q dd cy z sa b [] i (pc + 3) [.int r] σ1) : lW p l e s m below meth c Q dd cy z sa b [] i pc [.ref (z + 115), .int x, .ref (z + 0)] σ := by
  have C1 := C.1
  obtain ⟨⟨hx, hb, hml, hown, hts, hK, hZ, hZs, hz⟩, -⟩ := C
  intro ls H locs hl hP hS
  refine x_size (n0 := 0) hz hP (Nat.zero_le _) rfl hS (fun hsz => ?_)
  have hlenS : ∀ sig, parseMethodDescriptor kLed.desc = some sig → 3 = sig.parameters.length := fun sig h => by
    have := kw_mg
    rw [h] at this
    exact (Option.some.inj this).symm
  have hwords : ∀ w ∈ kWs, ∀ (a' : Array Value) (U : State), s.WarmedH U.vm → w.before a' U = true := by
    intro w hw a' U hW
    have hw2 : w ∈ xTs := by
      rcases List.mem_cons.mp hw with rfl | h
      · exact kw_c
      · exact h
    exact word_at hW (good_of_word (List.mem_filter.mp hw2).2) (hts w hw2)
  refine x_callk (mc := mc) (ms := ms) (vx_runSW (hh := [(0, 9, 12, 13)]) (As := [.ref (z + 0), .int x, .ref (z + 115)]) (rest := []) (g := F0 m pc ls [.ref (z + 115), .int x, .ref (z + 0)]) (⟨hx, hb, hml, hown, hts⟩ : CallFix p m c code 7 s #[.ref b] xTs "LastAskedLaw") hM ⟨⟨rfl, rfl, hd.1, hd.2, hwords, List.mem_cons_self⟩, hts _ kw_c, hts _ kw_mi, ⟨by decide, by decide⟩, hlenS, hts _ kw_ml, hts _ kw_ms⟩ ⟨j_blind (jZ_st z sa av), fun U hU hW => ⟨rfl, g_rel C1 hP hS hsz U hU hW⟩⟩ rfl rfl hl.1 rfl (Nat.zero_le _) hdg ⟨by show mN σ + mc ≤ 601024; omega, by show mU σ + ms ≤ 7293034; omega⟩) hS (fun H1 locs1 b1 b3 => ?_)
  rw [hmc.1, hmc.2]
  exact kk ls H1 locs1 hl b1 b3
theorem g_is5 {x : Int32} (C : GC p l s m c dd cy z sa av b L xs) (hdg : decode code pc = .ok (.istore 5, 2)) (k : lW p l e s m below meth c Q dd cy z sa b [(5, .int x)] i (pc + 2) st σ) : lW p l e s m below meth c Q dd cy z sa b [] i pc (.int x :: st) σ := fun ls H locs hl hP hS => lv_istore C.1.1 C.1.2.1 (nL := 7) hdg hl (by decide) rfl (fun ls' hl' => k ls' H locs (lv_sub hl' [1, 2, 3, 4, 5, 0] rfl) hP hS)
theorem g_is6 {x y : Int32} (C : GC p l s m c dd cy z sa av b L xs) (hdg : decode code pc = .ok (.istore 6, 2)) (k : lW p l e s m below meth c Q dd cy z sa b [(5, .int x), (6, .int y)] i (pc + 2) st σ) : lW p l e s m below meth c Q dd cy z sa b [(5, .int x)] i pc (.int y :: st) σ := fun ls H locs hl hP hS => lv_istore C.1.1 C.1.2.1 (nL := 7) hdg hl (by decide) rfl (fun ls' hl' => k ls' H locs (lv_sub hl' [1, 2, 3, 4, 5, 6, 0] rfl) hP hS)
theorem g_il5 {x y : Int32} (C : GC p l s m c dd cy z sa av b L xs) (hdg : decode code pc = .ok (.iload 5, 2)) (k : lW p l e s m below meth c Q dd cy z sa b [(5, .int x), (6, .int y)] i (pc + 2) (.int x :: st) σ) : lW p l e s m below meth c Q dd cy z sa b [(5, .int x), (6, .int y)] i pc st σ := fun ls H locs hl hP hS => lv_iload C.1.1 C.1.2.1 hdg (lv_at hl 5 rfl) (k ls H locs hl hP hS)
theorem g_il6 {x y : Int32} (C : GC p l s m c dd cy z sa av b L xs) (hdg : decode code pc = .ok (.iload 6, 2)) (k : lW p l e s m below meth c Q dd cy z sa b [(5, .int x), (6, .int y)] i (pc + 2) (.int y :: st) σ) : lW p l e s m below meth c Q dd cy z sa b [(5, .int x), (6, .int y)] i pc st σ := fun ls H locs hl hP hS => lv_iload C.1.1 C.1.2.1 hdg (lv_at hl 6 rfl) (k ls H locs hl hP hS)
theorem g_out {ex : List (Nat × Value)} (k : lW p l e s m below meth c Q dd cy z sa b [] i pc st σ) : lW p l e s m below meth c Q dd cy z sa b ex i pc st σ := fun ls H locs hl hP hS => k ls H locs (lv_sub hl [0, 1, 2, 3, 4] rfl) hP hS
/-- behind the law's call of led: τ the memory, r what it answered -/
theorem g_ledt {τ : xM} {s0 : Sta} {r : Int32} (C : GC p l s m c dd cy z sa av b L xs) (hW : WdS τ s0) (hO : gO τ) (hcap : mN τ ≤ 601024 ∧ mU τ ≤ 7293034) (hj : j + 5 < L) (hr : ledT (ledX s0 (xs (j + 1))) = r) (hv : r = 0 → mJ τ 115 0 = (ledI (ledX s0 (xs (j + 1)))).toInt64)
    (kend : ∀ υ, Wd υ → gO υ → mN υ = mN τ → mU υ = mU τ → lW p l e s m below meth c Q dd cy z sa b [] (nI j) 1874 [] υ) : lW p l e s m below meth c Q dd cy z sa b [] (nI j) 1791 [.int r] τ := by
  obtain ⟨υ, f1, f2, hN, hW2, hJ⟩ := w270J hW (xs (j + 1))
  have r1 : Rn 13 270 0 _ [] τ (some (.int (ledI (ledX s0 (xs (j + 1))))), υ) := e270 10 f1
  have r2 : Rn 13 150 0 _ [] υ (some (.int (ledT (ledX s0 (xs (j + 1))))), υ) := e150 13 f2
  have m2 : mN τ ≤ mN υ ∧ mU τ ≤ mU υ := by omega
  have c2 : mN υ ≤ 601024 ∧ mU υ ≤ 7293034 := by omega
  have a2 : 102 < mN τ := by have := hO.1; omega
  have a3 : 102 < mN υ := by have := hO.1; omega
  have hS := Wd_sh hW.wd
  have h115 := hS.1
  have k1 := Rn_kl r1
  simp only at k1
  have hS2 := Wd_sh hW2.wd
  have hK2 : mK τ 102 = 9 := sh_k hS (by decide)
  have hK3 : mK υ 102 = 9 := sh_k hS2 (by decide)
  have hOu : gO υ := ⟨by have := hO.1; omega, (k1.2 115 hO.1).1.trans hO.2.1, (k1.2 115 hO.1).2.trans hO.2.2⟩
  have hend := kend υ hW2.wd hOu hN.1 hN.2
  generalize ledI (ledX s0 (xs (j + 1))) = y at *
  rw [hr] at r2
  refine g_is5 C (ld32 26 rfl) ?_
  refine g_al2 C (ld32 27 rfl) ?_
  refine g_arg (k := 1) C (by omega) (by decide) (ld32 28 rfl) (ld32 29 rfl) (ld33 0 rfl) (ld33 1 rfl) (ld33 2 rfl) ?_
  refine g_vc (rn := 270) (a := 102) (o := 9) (σ1 := υ) (as := [.int (xs (j + 1))]) (st := []) C (by decide) (by decide) m2 c2 (g_run (as := (.ref 102 :: [.int (xs (j + 1))])) (by decide) (Nat.le_of_ble_eq_true rfl) r1) ⟨rfl, by decide, rfl, by decide, rfl⟩ ⟨a2, hK2⟩ lk_222 (Nat.le_of_ble_eq_true rfl) (ld33 3 rfl) ?_
  refine g_is6 C (ld33 4 rfl) ?_
  refine g_al2 C (ld33 5 rfl) ?_
  refine g_vc (rn := 150) (a := 102) (o := 9) (σ1 := υ) (as := []) (st := []) C (by decide) (by decide) ⟨Nat.le_refl _, Nat.le_refl _⟩ c2 (g_run (as := [.ref 102]) (by decide) (Nat.le_of_ble_eq_true rfl) r2) ⟨rfl, by decide, rfl, by decide, rfl⟩ ⟨a3, hK3⟩ lk_223 (Nat.le_of_ble_eq_true rfl) (ld33 6 rfl) ?_
  refine g_il5 C (ld33 7 rfl) ?_
  refine (fun ls H locs hl hP hS => lv_icmp_eq C.1.1 C.1.2.1 (tgt := 1816) (ld33 8 rfl) (by decide) (fun _ => ?_) (fun h => absurd rfl h))
  refine lv_iload C.1.1 C.1.2.1 (ld33 9 rfl) (lv_at hl 5 rfl) ?_
  have hout := hend ls H locs (lv_sub hl [0, 1, 2, 3, 4] rfl) hP hS
  refine lv_if_ne C.1.1 C.1.2.1 (tgt := 1833) (ld33 10 rfl) (by decide) (fun _ => ?_) (fun h0 => ?_)
  · exact lv_goto C.1.1 C.1.2.1 (tgt := 1874) (ld33 18 rfl) (by decide) hout
  · have hv0 := hv h0
    refine lv_aload_n C.1.1 C.1.2.1 (i := 3) (ld33 11 rfl) rfl (lv_at hl 1 rfl) ?_
    refine lv_iconst C.1.1 C.1.2.1 (v := 0) (ld33 12 rfl) (by decide) ?_
    have hz0 : (0 : Int32).toNatClampNeg = 0 := by decide
    have hin : vp_in (0 : Int32) (mL υ 115) := fun h => by
      rcases h with h | h
      · exact absurd h (by decide)
      · rw [hz0, hOu.2.2] at h
        omega
    refine va_lald C.1.1 C.1.2.1 C.1.2.2.2.2.2.1 hP 115 2 ((xW_at cy (xad z sa) υ hOu.1).trans (by rw [xC_J hOu.2.1]; rfl)) rfl hin (ld33 13 rfl) ?_
    rw [hz0, hJ, hv0]
    refine lv_iload C.1.1 C.1.2.1 (ld33 14 rfl) (lv_at hl 6 rfl) ?_
    refine lv_i2l C.1.1 C.1.2.1 (v := y.toInt64) (ld33 15 rfl) rfl ?_
    refine W.lcmp C.1.1 C.1.2.1 (ld33 16 rfl) ?_
    refine lv_if_eq C.1.1 C.1.2.1 (tgt := 1833) (ld33 17 rfl) (by decide) (fun _ => ?_) (fun h => absurd (lg_rf _) h)
    exact lv_goto C.1.1 C.1.2.1 (tgt := 1874) (ld33 18 rfl) (by decide) hout
theorem gO_wJ {τ : xM} {a k : Nat} {x : Int64} (h : gO τ) : gO (wJ τ a k x) := h
theorem gO_wl {s0 : Sta} (h : gO σ) : gO (wl σ s0) := by
  obtain ⟨wN, wU⟩ := wl_N σ s0
  obtain ⟨wK, wL⟩ := wl_KL σ s0
  unfold gO
  rw [wN, wK, wL]
  exact h
theorem gO_new {τ : xM} {c n u : Nat} (h : gO τ) : gO (sNew τ c n u) := by
  have h9 := (kLs_new τ c n u).2 115 h.1
  exact ⟨Nat.lt_succ_of_lt h.1, h9.1.trans h.2.1, h9.2.trans h.2.2⟩
theorem wJ_N {τ : xM} {a k : Nat} {x : Int64} : mN (wJ τ a k x) = mN τ ∧ mU (wJ τ a k x) = mU τ := ⟨rfl, rfl⟩
theorem wJ_J {τ : xM} {a k : Nat} {x : Int64} : mJ (wJ τ a k x) a k = x := by
  show up2 (mJ τ) a k x a k = _
  rw [up2_self, va_up_self]
theorem sNew_N {τ : xM} {c n u : Nat} : mN (sNew τ c n u) = mN τ + 1 ∧ mU (sNew τ c n u) = mU τ + u := ⟨rfl, rfl⟩
theorem q47a {τ : xM} {s0 : Sta} {r : Int32} {mc ms : Nat} (C : GC p l s m c dd cy z sa av b L xs) (hM : Met l kLed kWs (xRm 13 mc ms) (va_Pc [.ref (z + 0), .int (xs (j + 1)), .ref (z + 115)] (xRel dd cy z sa (jZ z sa av) σ)) (xQ dd cy z sa (jZ z sa av) (some (.int r)) τ) mc ms (fun q => z ≤ q)) (hW2 : WdS τ s0) (hO2 : gO τ) (hN : mN σ + mc = mN τ ∧ mU σ + ms = mU τ) (hmc : mc ≤ 1 ∧ ms ≤ 6) (hcap : mN σ + 12 ≤ 601024 ∧ mU σ + 98 ≤ 7293034) (hj : j + 5 < L) (hr : ledT (ledX s0 (xs (j + 1))) = r) (hv : r = 0 → mJ τ 115 0 = (ledI (ledX s0 (xs (j + 1)))).toInt64)
    (kend : ∀ υ, gN σ υ → lW p l e s m below meth c Q dd cy z sa b [] (nI j) 1874 [] υ) : lW p l e s m below meth c Q dd cy z sa b [] (nI j) 1780 [] σ := by
  have ct : mN τ ≤ 601024 ∧ mU τ ≤ 7293034 := by omega
  refine g_al1 C (ld32 18 rfl) ?_
  refine g_arg (k := 1) C (by omega) (by decide) (ld32 19 rfl) (ld32 20 rfl) (ld32 21 rfl) (ld32 22 rfl) (ld32 23 rfl) ?_
  refine g_al3 C (ld32 24 rfl) ?_
  refine g_ledc (d := 13) C hM ⟨by decide, by decide⟩ hN ct (ld32 25 rfl) ?_
  exact g_ledt C hW2 hO2 ct hj hr hv (fun υ h1 h2 h3 h4 => kend υ ⟨h1, h2, by omega, by omega⟩)
theorem q_47 (C : GC p l s m c dd cy z sa av b L xs) (hW : Wd σ) (hO : gO σ) (hcap : mN σ + 12 ≤ 601024 ∧ mU σ + 98 ≤ 7293034) (hj : j + 5 < L) (kend : ∀ υ, gN σ υ → lW p l e s m below meth c Q dd cy z sa b [] (nI j) 1874 [] υ) : lW p l e s m below meth c Q dd cy z sa b [] (nI j) 1780 [] σ := by
  obtain ⟨s0, hWs⟩ := Wd_S hW
  obtain ⟨n, hS, hc, hk⟩ := hWs.now
  have wN := wl_N σ s0
  cases hq : ledX s0 (xs (j + 1)) with
  | some q =>
    exact q47a C (k_some (d := 8) (ao := 115) hS hc hk hq ⟨hO.1, hO.2.1, by rw [hO.2.2]; decide⟩) (WdS_wJ (WdS_wl hWs)) (gO_wJ (gO_wl hO)) ⟨(wJ_N.1.trans wN.1).symm, (wJ_N.2.trans wN.2).symm⟩ ⟨by decide, by decide⟩ hcap hj (by rw [hq]; rfl) (fun _ => by rw [hq]; exact wJ_J) kend
  | none =>
    exact q47a C (k_none (d := 6) (ao := 115) C.2.2.2.1 hS hc hk hq) (WdS_wl hWs).new (gO_new (gO_wl hO)) ⟨by rw [sNew_N.1, wN.1], by rw [sNew_N.2, wN.2]⟩ ⟨by decide, by decide⟩ hcap hj (by rw [hq]; rfl) (fun h => absurd h (by decide)) kend
end QL
