/-! THE LAW: a context, its calls; kinds and lengths never change -/
theorem xfp_kl {σ σ' : xM} {a k t : Nat} {v : Value} (h : xfp σ a k t v = some σ') : mK σ' = mK σ ∧ mL σ' = mL σ := by
  unfold xfp at h
  split at h
  all_goals (try split at h)
  all_goals (try split at h)
  all_goals (try split at h)
  all_goals first | (cases h; exact ⟨rfl, rfl⟩) | cases h
def kLs (σ τ : xM) : Prop := mN σ ≤ mN τ ∧ ∀ a, a < mN σ → mK τ a = mK σ a ∧ mL τ a = mL σ a
theorem kLs.rf (σ : xM) : kLs σ σ := ⟨Nat.le_refl _, fun _ _ => ⟨rfl, rfl⟩⟩
theorem kLs.tr {σ τ υ : xM} (h : kLs σ τ) (g : kLs τ υ) : kLs σ υ := ⟨Nat.le_trans h.1 g.1, fun a ha => ⟨((g.2 a (Nat.lt_of_lt_of_le ha h.1)).1).trans (h.2 a ha).1, ((g.2 a (Nat.lt_of_lt_of_le ha h.1)).2).trans (h.2 a ha).2⟩⟩
theorem kLs_new (σ : xM) (c n u : Nat) : kLs σ (sNew σ c n u) := ⟨Nat.le_succ _, fun a ha => ⟨va_up_ne _ _ (by omega), va_up_ne _ _ (by omega)⟩⟩
theorem xstep_kl {d rn pc : Nat} {i : Instr} {ri : Int32} {rl : Int64} {ls st : List Value} {σ : xM} {x : xSt} (h : xstep d i rn ri rl pc ls st σ = some x) : kLs σ x.2.2.2 := by
  unfold xstep at h
  simp only [Bool.cond_eq_ite] at h
  split at h
  all_goals (try split at h)
  all_goals (try split at h)
  all_goals (try split at h)
  all_goals (try split at h)
  all_goals (try split at h)
  all_goals (try split at h)
  all_goals first
    | (cases h; exact ⟨Nat.le_refl _, fun _ _ => ⟨rfl, rfl⟩⟩)
    | (cases h; exact kLs_new _ _ _ _)
    | (rename_i hfp; cases h; obtain ⟨h1, h2⟩ := xfp_kl hfp; exact ⟨Nat.le_of_eq (xfp_N hfp).1.symm, fun a _ => ⟨congrFun h1 a, congrFun h2 a⟩⟩)
    | cases h
theorem xex_kl : ∀ (n d k pc : Nat) (ls st : List Value) (σ : xM) (y : Option Value × xM), xex xprim n d k pc ls st σ = some y → kLs σ y.2 := by
  intro n
  induction n with
  | zero => intro d k pc ls st σ y h; cases h
  | succ n ih =>
    intro d k pc ls st σ y h
    unfold xex at h
    split at h
    · cases h
    · split at h
      · rename_i hs
        exact (xstep_kl hs).tr (ih _ _ _ _ _ _ _ h)
      · split at h
        · cases h
          exact kLs.rf _
        · split at h
          · cases h
          · split at h
            · cases h
            · rw [Bool.cond_eq_ite] at h
              split at h
              · split at h
                · rename_i y1 hc
                  have h1 : kLs σ y1.2 := by
                    split at hc
                    · rename_i hp
                      cases hc
                      rw [(xprim_reg (P := fun _ => True) hp).1]
                      exact kLs.rf _
                    · exact ih _ _ _ _ _ _ _ hc
                  exact h1.tr (ih _ _ _ _ _ _ _ h)
                · cases h
              · cases h
theorem Rn_kl {d k pc : Nat} {ls st : List Value} {σ : xM} {y : Option Value × xM} (h : Rn d k pc ls st σ y) : kLs σ y.2 := by
  obtain ⟨n, h⟩ := h
  exact xex_kl n _ _ _ _ _ _ _ h
def gCx (dd : va_G) (cy : Nat → ClassId) (z : Nat) (sa : UInt32 → Nat) (av : Nat → Nat) (n0 : Nat) (p : Program) (s : State) (m : MethodId) (args : Array Value) (c : Code) (own : String) (cc : ByteArray) (ml : Nat) : Prop :=
  p.tables.exec = Jvm.exec ∧ c.code = cc ∧ c.maxLocals = ml ∧ s.vm.findClass own = some m.cls ∧ (∀ w ∈ xTs, w.before args s = true) ∧ va_K dd vwC2 (xty cy) s ∧ xZ sa s ∧ jZ z sa av s ∧ s.heap.size = z + n0
section GL
variable {p : Program} {l : Launch} {e : Env} {R : Room} {s : State} {m : MethodId} {args : Array Value} {below : List Frame} {meth : Method} {c : Code} {Q : State → Prop} {dd : va_G} {cy : Nat → ClassId} {z : Nat} {sa : UInt32 → Nat} {av : Nat → Nat} {own : String} {cc : ByteArray} {ml n0 u0 : Nat} {σ σ1 : xM} {H : Heap} {locs : List Loc}
theorem g_rel (C : gCx dd cy z sa av n0 p s m args c own cc ml) (hP : va_P dd vwC2 (xW cy (xad z sa) σ) H) (hS : va_S (fun q => z ≤ q) s.heap H locs) (hsz : H.size = z + mN σ) (U : State) (hU : U.heap = H) (hW : s.WarmedH U.vm) : xRel dd cy z sa (jZ z sa av) σ U := by
  obtain ⟨hx, hb, hml, hown, hts, hK, hZ, hZs, hz⟩ := C
  refine ⟨by rw [hU]; exact hsz, by rw [hU]; exact hP, va_K.moved hW.alike hK, hZ.warm hW, jZ_st z sa av s U hZs hW (fun q hq => ?_)⟩
  rw [hU]
  exact hS.2.1 q (by omega) (by omega)
theorem g_words {rn : Nat} (C : gCx dd cy z sa av n0 p s m args c own cc ml) (hrn : rn < 274) : ∀ w ∈ (Cond.code (xE rn).1 (xE rn).2.1 (xE rn).2.2.1 (xE rn).2.2.2.1 :: xTs), ∀ (a' : Array Value) (U : State), s.WarmedH U.vm → w.before a' U = true := by
  intro w hw a' U hW
  have hw2 : w ∈ xTs := by
    rcases List.mem_cons.mp hw with rfl | h
    · exact xTs_of (x_meAt hrn).1 rfl
    · exact h
  exact word_at hW (good_of_word (List.mem_filter.mp hw2).2) (C.2.2.2.2.1 w hw2)
/-- a virtual call of a method of the small machine -/
theorem g_call {rn d ix pc a o : Nat} {as rest : List Value} {r1 : Option Value} {ls : Array Slot} (C : gCx dd cy z sa av n0 p s m args c own cc ml) (hls : ls.size = ml) (hrn : rn < 274) (hR : d + 1 ≤ R.frames ∧ 8 + ((xE rn).2.2.1 + 11) + 42 * d ≤ R.locals) (hn0 : n0 ≤ mN σ ∧ u0 ≤ mU σ) (hmono : mN σ ≤ mN σ1 ∧ mU σ ≤ mU σ1) (hcap : mN σ1 - n0 ≤ R.cells ∧ mU σ1 - u0 ≤ R.slots)
    (hM : xMetP l dd cy z sa (jZ z sa av) d rn (.ref a :: as) σ r1 σ1) (hE : (xE rn).2.2.2.2.2.2 = false ∧ (xE rn).1.name ≠ "<init>" ∧ (xE rn).2.2.2.2.1 = o ∧ o < 10 ∧ (xE rn).2.2.2.2.2.1 = as.length + 1) (ha : a < mN σ ∧ mK σ a = o) (hlk : Cond.methodLink own ix (xE rn).1 ∈ xTs)
    (hroom : (rest.map fun v => v.category).sum ≤ 8) (hdg : decode cc pc = .ok (.invokevirtual ix, 3)) (hP : va_P dd vwC2 (xW cy (xad z sa) σ) H) (hS : va_S (fun q => z ≤ q) s.heap H locs)
    (kk : ∀ (H1 : Heap) (locs1 : List Loc), va_P dd vwC2 (xW cy (xad z sa) σ1) H1 → va_S (fun q => z ≤ q) s.heap H1 locs1 → W p l e R s m args below meth c H1 locs1 (mN σ1 - n0) (mU σ1 - u0) Q (F0 m (pc + 3) ls ((r1.map (xv (xad z sa))).toList ++ rest))) : W p l e R s m args below meth c H locs (mN σ - n0) (mU σ - u0) Q (F0 m pc ls ((as.map (xv (xad z sa))).reverse ++ .ref (z + a) :: rest)) := by
  have C0 := C
  obtain ⟨hx, hb, hml, hown, hts, hK, hZ, hZs, hz⟩ := C
  refine x_size hz hP hn0.1 rfl hS (fun hsz => ?_)
  obtain ⟨w1, w2, w3, w4, w5, w6, ⟨w7, w8, w9⟩, w10, w11⟩ := x_meAt hrn
  obtain ⟨o2, o3, o4, o5, o6⟩ := hE
  obtain ⟨v1, v2⟩ := w4 o2
  have hsel : (Cond.selects (xE rn).1.cls (xE rn).1 (xE rn).1).before args s = true := by
    rcases v2 with v2 | v2
    · exact absurd v2 o3
    · exact hts _ (xTs_of v2 rfl)
  have hcode0 : (Cond.code (xE rn).1 (xE rn).2.1 (xE rn).2.2.1 (xE rn).2.2.2.1).before args s = true := hts _ (xTs_of w1 rfl)
  have hini0 : (Cond.initialized (xE rn).1.cls).before args s = true := hts _ (xTs_of w2 rfl)
  obtain ⟨k0, k2, -⟩ := x_kc o o5
  have k1 := x_k2 k0
  have hcls : (xkC o).1 = (xE rn).1.cls := by
    rw [w6, o4]
    rcases (show o = 0 ∨ o = 1 ∨ o = 2 ∨ o = 3 ∨ o = 4 ∨ o = 5 ∨ o = 6 ∨ o = 7 ∨ o = 8 ∨ o = 9 by omega) with q | q | q | q | q | q | q | q | q | q <;> rw [q] <;> rfl
  have hrecv : ∃ cellB : Cell, H[z + a]? = some cellB ∧ cellB.vm.isStatics = false ∧ s.vm.findClass (xE rn).1.cls = some cellB.cls := by
    have := va_recv hK hP k1 ((xW_at cy (xad z sa) σ ha.1).trans (by rw [xC_obj ha.2 o5]))
    rw [hcls] at this
    exact this
  have hlenS : ∀ sig, parseMethodDescriptor (xE rn).1.desc = some sig → as.length = sig.parameters.length := fun sig hs => by
    rw [hs, o2] at w9
    simp at w9
    omega
  have hpre : ∀ U : State, U.heap = H → s.WarmedH U.vm → va_Pc ((.ref a :: as).map (xv (xad z sa))) (xRel dd cy z sa (jZ z sa av) σ) ((.ref a :: as).map (xv (xad z sa))).toArray U := fun U hU hW => ⟨rfl, g_rel C0 hP hS hsz U hU hW⟩
  have hwords := g_words C0 hrn
  unfold xMetP at hM
  have hf : mN σ - n0 + (mN σ1 - mN σ) ≤ R.cells ∧ mU σ - u0 + (mU σ1 - mU σ) ≤ R.slots := by omega
  refine x_callk (va_runV (As := as.map (xv (xad z sa))) (rest := rest) (g := F0 m pc ls ((as.map (xv (xad z sa))).reverse ++ .ref (z + a) :: rest)) (⟨hx, hb, hml, hown, hts⟩ : CallFix p m c cc ml s args xTs own) hM ⟨⟨rfl, rfl, hR.1, hR.2, hwords, List.mem_cons_self, hcode0, hini0, ⟨w7, w8⟩, hlenS, hts _ hlk⟩, hts _ (xTs_of v1 rfl), hsel⟩ ⟨x_blind (jZ_st z sa av), hrecv, hpre⟩ rfl (by simp) hls rfl (by show 2 * 0 + _ ≤ 8; omega) hdg hf) hS (fun H1 locs1 b1 b3 => ?_)
  rw [show mN σ - n0 + (mN σ1 - mN σ) = mN σ1 - n0 by omega, show mU σ - u0 + (mU σ1 - mU σ) = mU σ1 - u0 by omega]
  exact kk H1 locs1 b1 b3
theorem g_run {d k : Nat} {as : List Value} {r : Option Value} (hk : k < 274) (hfl : (xflat as).length ≤ (xE k).2.2.1) (h : Rn d k 0 (xent as (xE k).2.2.1) [] σ (r, σ1)) : xMetP l dd cy z sa (jZ z sa av) d k as σ r σ1 := by
  obtain ⟨n, h⟩ := h
  exact x_run (jZ_st z sa av) xprim_pm j_prim hk hfl h
end GL
