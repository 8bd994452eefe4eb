/-! the law's own method led -/
section LL
variable {l : Launch} {dd : va_G} {cy : Nat → ClassId} {z : Nat} {sa : UInt32 → Nat} {av : Nat → Nat} {σ : xM} {s0 : Sta} {n ao : Nat} {i : Int32}
abbrev kWs : List Cond := .codeWith kLed method_3_code 4 (some .int) [(0, 9, 12, 13)] :: xTs
theorem wl_KL (σ : xM) (s0 : Sta) : mK (wl σ s0) = mK σ ∧ mL (wl σ s0) = mL σ := by
  have u : Upd (fun a _ => Nat.beq a 93) σ (wl σ s0) := wl_upd Upd.refl (fun _ => rfl)
  exact ⟨u.1.1, u.1.2.1⟩
theorem g_at {p : Program} {e : Env} {R : Room} {s : State} {m : MethodId} {args : Array Value} {below : List Frame} {meth : Method} {c : Code} {Q : State → Prop} {H : Heap} {locs : List Loc} {g : JFrame} {k1 k2 a1 a2 : Nat} (h1 : a1 = k1) (h2 : a2 = k2) (h : W p l e R s m args below meth c H locs a1 a2 Q g) : W p l e R s m args below meth c H locs k1 k2 Q g := by
  subst h1
  subst h2
  exact h
theorem g_last {p : Program} {e : Env} {R : Room} {s : State} {m : MethodId} {args : Array Value} {below : List Frame} {meth : Method} {c : Code} {Q : State → Prop} {H : Heap} {locs : List Loc} {cells slots pc : Nat} {ls : Array Slot} {rest : List Value} {cc : ByteArray} {τ : xM} {x : Int64} (hx : p.tables.exec = Jvm.exec) (hb : c.code = cc) (hK : va_K dd vwC2 (xty cy) s) (hao : ao < mN τ ∧ mK τ ao = 12 ∧ 0 < mL τ ao) (hdg : decode cc pc = .ok (.lastore, 1)) (hP : va_P dd vwC2 (xW cy (xad z sa) τ) H) (hS : va_S (fun q => z ≤ q) s.heap H locs)
    (kk : ∀ (H1 : Heap) (locs1 : List Loc), va_P dd vwC2 (xW cy (xad z sa) (wJ τ ao 0 x)) H1 → va_S (fun q => z ≤ q) s.heap H1 locs1 → W p l e R s m args below meth c H1 locs1 cells slots Q (F0 m (pc + 1) ls rest)) : W p l e R s m args below meth c H locs cells slots Q (F0 m pc ls (.long x :: .int 0 :: .ref (z + ao) :: rest)) := by
  have hz0 : (0 : Int32).toNatClampNeg = 0 := by decide
  have hin : vp_in (0 : Int32) (mL τ ao) := fun h => by
    rcases h with h | h
    · exact absurd h (by decide)
    · rw [hz0] at h
      omega
  generalize (0 : Int32) = j0 at hz0 hin ⊢
  have hset : (xW cy (xad z sa) τ).set ao ((xad z sa).1 ao, Sum.inl (cy 12, mL τ ao, Sum.inr (Sum.inl (vp_updL (mJ τ ao) j0.toNatClampNeg x)))) = xW cy (xad z sa) (sJ τ (up2 (mJ τ) ao j0.toNatClampNeg x)) := xW_set rfl ((xC_J (σ := sJ τ (up2 (mJ τ) ao j0.toNatClampNeg x)) hao.2.1).trans (by
      show Sum.inl (cy 12, mL τ ao, Sum.inr (Sum.inl (up2 (mJ τ) ao j0.toNatClampNeg x ao))) = _
      rw [up2_self]
      rfl)) (fun b hb => by
      show xcell cy (xad z sa) (mK τ b) (mL τ b) (mI τ b) (up2 (mJ τ) ao j0.toNatClampNeg x b) (mR τ b) = _
      rw [up2_ne _ _ _ hb]
      rfl)
  refine va_last hx hb hK hP xW_D hS ao 2 ((xW_at cy (xad z sa) τ hao.1).trans (by rw [xC_J hao.2.1]; rfl)) rfl hin hdg (fun H2 locs2 b1 b2 b3 => ?_)
  have b1 : va_P dd vwC2 (xW cy (xad z sa) (sJ τ (up2 (mJ τ) ao j0.toNatClampNeg x))) H2 := by rw [← hset]; exact b1
  rw [hz0] at b1
  exact kk H2 locs2 b1 b3
theorem k_mid {d : Nat} {τ : xM} {v : Int32} (hS : Sh σ) (wN : mN τ = mN σ) (wU : mU τ = mU σ) (wK : mK τ = mK σ) (wL : mL τ = mL σ) (hM : xMetP l dd cy z sa (jZ z sa av) (d + 4) 111 [.ref 0, .int i] σ (some (.int v)) τ) (hao : ao < mN σ ∧ mK σ ao = 12 ∧ 0 < mL σ ao) :
    Met l kLed kWs (xRm (d + 5) 0 0) (va_Pc [.ref (z + 0), .int i, .ref (z + ao)] (xRel dd cy z sa (jZ z sa av) σ)) (xQ dd cy z sa (jZ z sa av) (some (.int 0)) (wJ τ ao 0 v.toInt64)) 0 0 (fun q => z ≤ q) := by
  refine va_MetW (hh := [(0, 9, 12, 13)]) (by decide) rfl ?_
  intro p e s m args below meth c s₁ B hml hv
  obtain ⟨rfl, hrel⟩ := hv
  have hts := atoms_spec (ws := kWs) B.pre
  have C : gCx dd cy z sa av (mN σ) p s m _ c "LastAskedLaw" method_3_code 4 := ⟨B.exec, B.bytes, hml, findClass_of_methodNamed B.named, fun w hw => hts w (List.mem_cons_of_mem _ hw), hrel.2.2.1, hrel.2.2.2.1, hrel.2.2.2.2, hrel.1⟩
  have hx := B.exec
  have hb := B.bytes
  have hret := B.returns
  have hlocks := B.notSynchronized
  have hK := hrel.2.2.1
  rw [lg_entry_eq]
  have hl := lv_entry [.ref (z + 0), .int i, .ref (z + ao)] (n := 4) (by show 3 ≤ 4; decide)
  generalize ((lg_sl [Value.ref (z + 0), .int i, .ref (z + ao)] ++ List.replicate (4 - (lg_sl [Value.ref (z + 0), .int i, .ref (z + ao)]).length) Slot.unset).toArray) = arr at hl ⊢
  refine lv_aload_n hx hb (i := 2) kl_0 rfl (lv_at hl 2 rfl) ?_
  refine lv_iconst hx hb (v := 0) kl_1 (by decide) ?_
  refine lv_aload_n hx hb (i := 0) kl_2 rfl (lv_at hl 0 rfl) ?_
  refine lv_iload_n hx hb (i := 1) kl_3 rfl (lv_at hl 1 rfl) ?_
  refine g_at (Nat.sub_self (mN σ)) (Nat.sub_self (mU σ)) (g_call (rn := 111) (d := d + 4) (ix := 7) (a := 0) (o := 7) (as := [.int i]) (rest := [.int 0, .ref (z + ao)]) C hl.1 (by decide) ⟨Nat.le_refl _, by show 8 + (4 + 11) + 42 * (d + 4) ≤ 42 * (d + 5); omega⟩ ⟨Nat.le_refl _, Nat.le_refl _⟩ ⟨by omega, by omega⟩ ⟨by show mN τ - mN σ ≤ 0; omega, by show mU τ - mU σ ≤ 0; omega⟩ hM ⟨rfl, by decide, rfl, by decide, rfl⟩ ⟨sh_n hS (by decide), sh_k hS (by decide)⟩ kw_l (by show 2 ≤ 8; decide) kl_4 hrel.2.1 va_S.rf ?_)
  intro H1 locs1 hP1 hS1
  refine lv_i2l hx hb (v := v.toInt64) kl_7 rfl ?_
  refine g_last hx hb hK ⟨by omega, by rw [wK]; exact hao.2.1, by rw [wL]; exact hao.2.2⟩ kl_8 hP1 hS1 (fun H2 locs2 b1 b3 => ?_)
  refine lv_goto hx hb (tgt := 15) kl_9 (by decide) ?_
  refine lv_iconst hx hb (v := 0) kl_15 (by decide) ?_
  have hN : mN (wJ τ ao 0 v.toInt64) = mN τ := rfl
  generalize wJ τ ao 0 v.toInt64 = τ2 at b1 hN ⊢
  refine g_at (show 0 = mN τ - mN σ by omega) (show 0 = mU τ - mU σ by omega) ?_
  refine x_size (n0 := mN σ) (σ := τ2) hrel.1 b1 (by omega) (by omega) b3 (fun hsz => ?_)
  exact W.iret hx hb hret (fun t ht hW => ⟨⟨rfl, g_rel C b1 b3 hsz t ht hW⟩, b3.F ht⟩) b3.2.2 kl_16 (hlocks := hlocks)
theorem k_some {d q : Nat} (hS : Sh σ) (hc : cS σ 26 n s0) (hk : Ok n s0) (hq : ledX s0 i = some q) (hao : ao < mN σ ∧ mK σ ao = 12 ∧ 0 < mL σ ao) :
    Met l kLed kWs (xRm (d + 5) 0 0) (va_Pc [.ref (z + 0), .int i, .ref (z + ao)] (xRel dd cy z sa (jZ z sa av) σ)) (xQ dd cy z sa (jZ z sa av) (some (.int 0)) (wJ (wl σ s0) ao 0 (nI q).toInt64)) 0 0 (fun q => z ≤ q) :=
  k_mid hS (wl_N σ s0).1 (wl_N σ s0).2 (wl_KL σ s0).1 (wl_KL σ s0).2 (l_some hS hc hk hq) hao
theorem k_thr {p : Program} {e : Env} {R : Room} {s : State} {m : MethodId} {args : Array Value} {below : List Frame} {meth : Method} {c : Code} {Q : State → Prop} {H : Heap} {locs : List Loc} {τ : xM} {cells slots mc ms pc : Nat} {ls : Array Slot} {st0 rest : List Value} (hr : vx_Run p l e R s m args below meth c H locs cells slots mc ms (F0 m pc ls st0) rest (fun _ _ _ => False) (lX dd cy z sa τ) (fun q => z ≤ q)) (hS : va_S (fun q => z ≤ q) s.heap H locs)
    (kx : ∀ (ce : Cell) (q9 : Addr) (H1 : Heap) (locs1 : List Loc), va_P dd vwC2 (xW cy (xad z sa) τ) H1 → va_S (fun q => z ≤ q) s.heap H1 locs1 → H1[q9]? = some ce → ce.vm = .none → s.vm.findClass "java/util/NoSuchElementException" = some ce.cls → vx_W p l e R s m args below meth c H1 locs1 (cells + mc) (slots + ms) Q (F0 m pc ls rest) q9) : W p l e R s m args below meth c H locs cells slots Q (F0 m pc ls st0) := by
  intro T hT X
  rcases hr T hT X with ⟨v, st₀, t, T', L, h0, X', hL, e1, e2, hF, st⟩ | ⟨q, st₀, t, T', L, E, ce, h0, X', hL, e1, e2, ⟨rfl, hp, hF⟩, hce, hcv, hcl, st⟩
  · exact hF.elim
  · obtain ⟨k1, k2, k3⟩ := vx_keep h0 e1 hS (fun q _ h => h) (fun q h => h) hL hF
    obtain ⟨t2, a1, b1⟩ := kx ce q T'.heap (locs ++ L) (by rw [e1]; exact hp) k3 (by rw [e1]; exact hce) hcv hcl T' rfl X'
    exact ⟨t2, st.trans a1, b1⟩
theorem k_none {d : Nat} (hlt : l.stackTraces = false) (hS : Sh σ) (hc : cS σ 26 n s0) (hk : Ok n s0) (hq : ledX s0 i = none) :
    Met l kLed kWs (xRm (d + 7) 1 6) (va_Pc [.ref (z + 0), .int i, .ref (z + ao)] (xRel dd cy z sa (jZ z sa av) σ)) (xQ dd cy z sa (jZ z sa av) (some (.int 1)) (sNew (wl σ s0) 20 0 6)) 1 6 (fun q => z ≤ q) := by
  obtain ⟨wN, wU⟩ := wl_N σ s0
  have hM := fun dd cy z sa av => l_none (l := l) (dd := dd) (cy := cy) (z := z) (sa := sa) (av := av) (d := d) hlt hS hc hk hq
  generalize wl σ s0 = τ at wN wU hM ⊢
  refine va_MetW (hh := [(0, 9, 12, 13)]) (by decide) rfl ?_
  intro p e s m args below meth c s₁ B hml hv
  obtain ⟨rfl, hrel⟩ := hv
  have hts := atoms_spec (ws := kWs) B.pre
  have hts' : ∀ w ∈ xTs, w.before _ s = true := fun w hw => hts w (List.mem_cons_of_mem _ hw)
  have hown : s.vm.findClass "LastAskedLaw" = some m.cls := findClass_of_methodNamed B.named
  have C : gCx dd cy z sa av (mN σ) p s m _ c "LastAskedLaw" method_3_code 4 := ⟨B.exec, B.bytes, hml, hown, hts', hrel.2.2.1, hrel.2.2.2.1, hrel.2.2.2.2, hrel.1⟩
  have htab : c.exceptionTable.toList = [⟨0, 9, 12, 13⟩] := vx_table (x := kLed) B (hts _ List.mem_cons_self)
  have hx := B.exec
  have hb := B.bytes
  have hret := B.returns
  have hlocks := B.notSynchronized
  have hK := hrel.2.2.1
  rw [lg_entry_eq]
  have hl := lv_entry [.ref (z + 0), .int i, .ref (z + ao)] (n := 4) (by show 3 ≤ 4; decide)
  generalize ((lg_sl [Value.ref (z + 0), .int i, .ref (z + ao)] ++ List.replicate (4 - (lg_sl [Value.ref (z + 0), .int i, .ref (z + ao)]).length) Slot.unset).toArray) = arr at hl ⊢
  refine lv_aload_n hx hb (i := 2) kl_0 rfl (lv_at hl 2 rfl) ?_
  refine lv_iconst hx hb (v := 0) kl_1 (by decide) ?_
  refine lv_aload_n hx hb (i := 0) kl_2 rfl (lv_at hl 0 rfl) ?_
  refine lv_iload_n hx hb (i := 1) kl_3 rfl (lv_at hl 1 rfl) ?_
  obtain ⟨w1, w2, w3, w4, w5, w6, ⟨w7, w8, w9⟩, w10, w11⟩ := x_meAt (k := 111) (by decide)
  obtain ⟨v1, v2⟩ := w4 rfl
  have hsel : (Cond.selects (xE 111).1.cls (xE 111).1 (xE 111).1).before [.ref (z + 0), .int i, .ref (z + ao)].toArray s = true := by
    rcases v2 with v2 | v2
    · exact absurd v2 (by decide)
    · exact hts' _ (xTs_of v2 rfl)
  have h0n : 0 < mN σ := sh_n hS (by decide)
  have h0k : mK σ 0 = 7 := sh_k hS (by decide)
  have hrecv := va_recv hK hrel.2.1 (x_k2 (x_kc 7 (by decide)).1) ((xW_at cy (xad z sa) σ h0n).trans (by rw [xC_obj h0k (by decide)]))
  have hlenS : ∀ sig, parseMethodDescriptor (xE 111).1.desc = some sig → 1 = sig.parameters.length := fun sig h => by
    have := kw_g
    rw [h] at this
    exact (Option.some.inj this).symm
  have hrelU : ∀ U : State, U.heap = s.heap → s.WarmedH U.vm → xRel dd cy z sa (jZ z sa av) σ U := fun U hU hW => g_rel C hrel.2.1 va_S.rf hrel.1 U hU hW
  refine k_thr (mc := 1) (ms := 6) (rest := [.int 0, .ref (z + ao)]) (vx_runV (As := [.int i]) (rest := [.int 0, .ref (z + ao)]) (g := F0 m 4 arr [.int i, .ref (z + 0), .int 0, .ref (z + ao)]) (⟨hx, hb, hml, hown, hts'⟩ : CallFix p m c method_3_code 4 s _ xTs "LastAskedLaw") (hM dd cy z sa av) ⟨⟨rfl, rfl, Nat.le_refl _, by show 8 + (4 + 11) + 42 * (d + 6) ≤ 42 * (d + 7); omega, g_words C (by decide), List.mem_cons_self, hts' _ (xTs_of w1 rfl), hts' _ (xTs_of w2 rfl), ⟨w7, w8⟩, hlenS, hts' _ kw_l⟩, hts' _ (xTs_of v1 rfl), hsel⟩ ⟨x_blind (jZ_st z sa av), hrecv, fun U hU hW => ⟨rfl, hrelU U hU hW⟩⟩ rfl rfl hl.1 rfl (by show 2 * 0 + 2 ≤ 8; decide) kl_4 ⟨Nat.le_refl 1, Nat.le_refl 6⟩) va_S.rf ?_
  intro ce q9 H1 locs1 hP1 hS1 c1 c2 c3
  refine vx_one (own := "LastAskedLaw") (name := "java/util/NoSuchElementException") (E := "java/util/NoSuchElementException") hown ⟨0, 9, 12, 13⟩ htab (by decide) (by decide) (hts' _ kw_x) (va_tabs (by decide) rfl (hrel.2.2.2.2.2.2.2.2.2 _ kw_n)) c1 c2 c3 ?_
  refine lv_astore_n hx hb (i := 3) (nL := 4) kl_12 rfl hl (by decide) rfl (fun l1 hl1 => ?_)
  refine lv_iconst hx hb (v := 1) kl_13 (by decide) ?_
  refine x_size (n0 := mN σ) (σ := sNew τ 20 0 6) hrel.1 hP1 (by show mN σ ≤ mN τ + 1; omega) (by show 1 = mN τ + 1 - mN σ; omega) hS1 (fun hsz => ?_)
  exact W.iret hx hb hret (fun t ht hW => ⟨⟨rfl, g_rel C hP1 hS1 hsz t ht hW⟩, hS1.F ht⟩) hS1.2.2 kl_14 (hlocks := hlocks)
end LL
