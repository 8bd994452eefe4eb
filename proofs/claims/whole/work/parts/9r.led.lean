/-! led: the class's contract, the law's own method -/
theorem kd_45 : decode (xE 111).2.1 45 = .ok (.ireturn, 1) := by decide +kernel
theorem kd_55 : decode (xE 111).2.1 55 = .ok (.new 320, 3) := by decide +kernel
theorem kd_58 : decode (xE 111).2.1 58 = .ok (.dup, 1) := by decide +kernel
theorem kd_59 : decode (xE 111).2.1 59 = .ok (.invokespecial 322, 3) := by decide +kernel
theorem kd_62 : decode (xE 111).2.1 62 = .ok (.athrow, 1) := by decide +kernel
theorem kl_0 : decode method_3_code 0 = .ok (.aload_n 2, 1) := by decide +kernel
theorem kl_1 : decode method_3_code 1 = .ok (.iconst 0, 1) := by decide +kernel
theorem kl_2 : decode method_3_code 2 = .ok (.aload_n 0, 1) := by decide +kernel
theorem kl_3 : decode method_3_code 3 = .ok (.iload_n 1, 1) := by decide +kernel
theorem kl_4 : decode method_3_code 4 = .ok (.invokevirtual 7, 3) := by decide +kernel
theorem kl_7 : decode method_3_code 7 = .ok (.i2l, 1) := by decide +kernel
theorem kl_8 : decode method_3_code 8 = .ok (.lastore, 1) := by decide +kernel
theorem kl_9 : decode method_3_code 9 = .ok (.goto 6, 3) := by decide +kernel
theorem kl_12 : decode method_3_code 12 = .ok (.astore_n 3, 1) := by decide +kernel
theorem kl_13 : decode method_3_code 13 = .ok (.iconst 1, 1) := by decide +kernel
theorem kl_14 : decode method_3_code 14 = .ok (.ireturn, 1) := by decide +kernel
theorem kl_15 : decode method_3_code 15 = .ok (.iconst 0, 1) := by decide +kernel
theorem kl_16 : decode method_3_code 16 = .ok (.ireturn, 1) := by decide +kernel
set_option maxRecDepth 30000 in
theorem kw_k : Cond.classLink "LastAsked" 320 "java/util/NoSuchElementException" ∈ xTs := xTs_of (x_t 927 rfl) rfl
set_option maxRecDepth 30000 in
theorem kw_i : Cond.initialized "java/util/NoSuchElementException" ∈ xTs := xTs_of (x_t 20 rfl) rfl
def kLed : MethodName := ⟨"LastAskedLaw", "led", "(LLastAsked;I[J)I"⟩
set_option maxRecDepth 30000 in
theorem kw_c : Cond.codeWith kLed method_3_code 4 (some .int) [(0, 9, 12, 13)] ∈ xTs := xTs_of (x_t 921 rfl) rfl
set_option maxRecDepth 30000 in
theorem kw_x : Cond.classLink "LastAskedLaw" 13 "java/util/NoSuchElementException" ∈ xTs := xTs_of (x_t 922 rfl) rfl
set_option maxRecDepth 30000 in
theorem kw_l : Cond.methodLink "LastAskedLaw" 7 (xE 111).1 ∈ xTs := xTs_of (x_t 923 rfl) rfl
theorem kw_g : (parseMethodDescriptor (xE 111).1.desc).map (fun q => q.parameters.length) = some 1 := by decide +kernel
set_option maxRecDepth 30000 in
theorem kw_t : ∀ w ∈ jTh.filter goodWord, w ∈ xTs := by
  intro w hw
  have h : ∀ w ∈ jTh.filter goodWord, w ∈ lw_tbl := by decide +kernel
  exact xTs_of (h w hw) (List.mem_filter.mp hw).2
theorem kw_o : ∀ w ∈ Cond.classLink "LastAsked" 320 "java/util/NoSuchElementException" :: Cond.initialized "java/util/NoSuchElementException" :: jTh, vx_ot w = true := by decide +kernel
theorem kw_n : Cond.castable "java/util/NoSuchElementException" "java/util/NoSuchElementException" ∈ jN := by decide +kernel
theorem wl_N (σ : xM) (s0 : Sta) : mN (wl σ s0) = mN σ ∧ mU (wl σ s0) = mU σ := by
  have u : Upd (fun a _ => Nat.beq a 93) σ (wl σ s0) := wl_upd Upd.refl (fun _ => rfl)
  exact ⟨u.1.2.2.2.1, u.1.2.2.2.2⟩
/-- where led has thrown -/
def lX (dd : va_G) (cy : Nat → ClassId) (z : Nat) (sa : UInt32 → Nat) (τ : xM) : String → State → State → Prop := fun E st t => E = "java/util/NoSuchElementException" ∧ va_P dd vwC2 (xW cy (xad z sa) τ) t.heap ∧ va_F (fun q => z ≤ q) st t
section LC
variable {l : Launch} {dd : va_G} {cy : Nat → ClassId} {z : Nat} {sa : UInt32 → Nat} {av : Nat → Nat} {σ : xM} {s0 : Sta} {n : Nat} {i : Int32}
theorem l_some {d q : Nat} (hS : Sh σ) (hc : cS σ 26 n s0) (hk : Ok n s0) (hq : ledX s0 i = some q) : xMetP l dd cy z sa (jZ z sa av) (d + 4) 111 [.ref 0, .int i] σ (some (.int (nI q))) (wl σ s0) := by
  have hr := led_run (d := d) hS hc hk i
  rw [hq] at hr
  obtain ⟨l9, n9, hr⟩ := hr
  refine x_metOf (by decide) (by show 2 ≤ 4; decide) ?_
  intro p e R s m args below meth c n0 u0 C hret hlocks hZs hR hz h0 h0u hcap
  exact x_part (t := 45) (jZ_st z sa av) xprim_pm j_prim n9 (d + 4) 111 0 _ _ σ _ _ _ hr p e R s m args below meth c _ n0 u0 C hZs hR hz h0 h0u hcap (x_ret (i := .ireturn) (len := 1) (jZ_st z sa av) C hret hlocks hZs hz kd_45 (Or.inr rfl) rfl)
theorem l_none {d : Nat} (hl : l.stackTraces = false) (hS : Sh σ) (hc : cS σ 26 n s0) (hk : Ok n s0) (hq : ledX s0 i = none) : vx_Met l (xE 111).1 (.code (xE 111).1 (xE 111).2.1 (xE 111).2.2.1 (xE 111).2.2.2.1 :: xTs) (xRm (d + 6) 1 6) (va_Pc ([.ref 0, .int i].map (xv (xad z sa))) (xRel dd cy z sa (jZ z sa av) σ)) (fun _ _ _ _ => False) (lX dd cy z sa (sNew (wl σ s0) 20 0 6)) 1 6 (fun q => z ≤ q) := by
  have hr := led_run (d := d + 2) hS hc hk i
  rw [hq] at hr
  obtain ⟨l9, n9, hr⟩ := hr
  obtain ⟨w1, w2, w3, w4, w5, w6, w7, w10, w11⟩ := x_meAt (k := 111) (by decide)
  obtain ⟨wN, wU⟩ := wl_N σ s0
  refine vx_ofW (cc := (xE 111).2.1) (maxL := (xE 111).2.2.1) (ret := (xE 111).2.2.2.1) w5 rfl ?_
  intro p e s m args below meth c s₁ B hml htab hv
  obtain ⟨rfl, hsz, hP, hK, hZ, hZs⟩ := hv
  have hts := atoms_spec (ws := Cond.code (xE 111).1 (xE 111).2.1 (xE 111).2.2.1 (xE 111).2.2.2.1 :: xTs) B.pre
  have hts' : ∀ w ∈ xTs, w.before _ s = true := fun w hw => hts w (List.mem_cons_of_mem _ hw)
  have hown0 : s.vm.findClass (xE 111).1.cls = some m.cls := findClass_of_methodNamed B.named
  have hown : s.vm.findClass "LastAsked" = some m.cls := hown0
  have C : xCx dd cy sa p s m _ meth c 111 := ⟨B.exec, B.bytes, hml, by rw [w6] at hown0; exact hown0, hts', (name_of_methodNamed B.named B.method).1, hK, hZ⟩
  have hx55 : xG p l e (xRm (d + 6) 1 6) s m ([.ref 0, .int i].map (xv (xad z sa))).toArray below meth c (vx_MQ below (fun _ _ _ _ => False) (lX dd cy z sa (sNew (wl σ s0) 20 0 6)) ([.ref 0, .int i].map (xv (xad z sa))).toArray s 1 6 (fun q => z ≤ q)) dd cy z sa (mN σ) (mU σ) 55 [.ref 0, .int i, .int l9, .int (nI 6)] [] (wl σ s0) := by
    intro arr H locs a1 a2 a4 a5 a6
    refine x_size hsz a2 a4 rfl a6 (fun hsz1 => ?_)
    rw [show mN (wl σ s0) - mN σ = 0 by omega, show mU (wl σ s0) - mU σ = 0 by omega]
    have hat : ∀ w ∈ vx_at0 "LastAsked" 322 "java/util/NoSuchElementException" ["java/lang/RuntimeException", "java/lang/Exception"], w.before ([.ref 0, .int i].map (xv (xad z sa))).toArray s = true :=
      vx_hat (L := jTh) (B := jN) (fun w hw => hts' w (kw_t w hw)) (fun w hw => hw) (fun w hw => va_tabs (by have h1 := List.all_eq_true.mp jN_ok w hw; rw [Bool.and_eq_true] at h1; exact h1.2) rfl (hZs.2.2.2.2.2 w hw))
    refine vx_throw0 (own := "LastAsked") (cls := "java/util/NoSuchElementException") (names := ["java/lang/RuntimeException", "java/lang/Exception"]) (ik := 320) (ic := 322) (A := fun q => z ≤ q) B.exec B.bytes hl hown (by decide) (by decide) (hts' _ kw_k) (hts' _ kw_i) hat kw_o hZs.2.2.2.1 hZs.2.2.2.2.1 a6 a1.2.1 kd_55 kd_58 kd_59 kd_62 (fun x hx => (htab x hx).elim) (by show 2 + 3 < d + 6; omega) (by show 0 + (13 * (2 + 1) + 42) ≤ 42 * (d + 6); omega) (Nat.le_refl 1) (Nat.le_refl 6) B.notSynchronized ?_ a6.2.2 (Nat.le_refl 1) (Nat.le_refl 6)
    intro t hal hle heq hce
    obtain ⟨ce, c1, c2, c3⟩ := hce
    refine ⟨rfl, ?_, ?_⟩
    · rw [← xW_new (q := H.size) (e := .inr (10, [])) (by rw [hsz1]; rfl) rfl]
      refine (a2.kept (fun k q hk => heq q.1 ((a2 k q hk).lt))).app (fun k q hk => ?_)
      have hk0 : k < 1 := (List.getElem?_eq_some_iff.mp hk).1
      rw [show k = 0 by omega] at hk
      cases hk
      have hKn := (hK.1 10 _ rfl).2.1
      refine ⟨_, rfl, ce, c1, ?_, c2, fun k hk => absurd hk (Nat.not_lt_zero k)⟩
      exact Option.some.inj (c3.symm.trans hKn)
    · exact ⟨Nat.le_trans a6.1 hle, fun q h1 h2 => (heq q (Nat.lt_of_lt_of_le h1 a6.1)).trans (a6.2.1 q h1 h2)⟩
  have hG := x_part (t := 55) (l := l) (jZ_st z sa av) xprim_pm j_prim n9 (d + 6) 111 0 _ _ σ _ _ _ hr p e (xRm (d + 6) 1 6) s m _ below meth c _ (mN σ) (mU σ) C hZs ⟨Nat.le_refl _, Nat.le_refl _⟩ hsz (Nat.le_refl _) (Nat.le_refl _) ⟨by show mN (wl σ s0) - mN σ ≤ 1; omega, by show mU (wl σ s0) - mU σ ≤ 6; omega⟩ hx55
  rw [lg_entry_eq]
  have hk2 := hG _ s.heap [] (by rw [hml]; exact xL_ent (xad z sa) [.ref 0, .int i] (by show 2 ≤ 4; decide)) hP (Nat.le_refl _) (Nat.le_refl _) va_S.rf
  rw [Nat.sub_self, Nat.sub_self] at hk2
  exact hk2
end LC
