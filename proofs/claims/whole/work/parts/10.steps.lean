set_option maxRecDepth 30000 in
theorem x_arrI : Cond.arrayClass (newarray.typeOf .int) ∈ lw_tbl := x_t 131 rfl
set_option maxRecDepth 30000 in
theorem x_arrB : Cond.arrayClass (newarray.typeOf .byte) ∈ lw_tbl := x_t 175 rfl
set_option maxRecDepth 30000 in
theorem x_arrJ : Cond.arrayClass (newarray.typeOf .long) ∈ lw_tbl := x_t 176 rfl
set_option maxRecDepth 30000 in
theorem x_obj1 : Cond.instanceMethod objectInit ∈ lw_tbl := x_t 28 rfl
set_option maxRecDepth 30000 in
theorem x_obj2 : Cond.code objectInit ⟨#[0xb1]⟩ 1 none ∈ lw_tbl := x_t 29 rfl
set_option maxRecDepth 30000 in
theorem x_min1 : Cond.static Lib.Math.min.name ∈ lw_tbl := x_t 339 rfl
set_option maxRecDepth 30000 in
theorem x_max1 : Cond.static Lib.Math.max.name ∈ lw_tbl := x_t 743 rfl
set_option maxRecDepth 30000 in
theorem x_min2 : Cond.code Lib.Math.min.name Lib.Math.min.code 2 (some .int) ∈ lw_tbl := x_t 340 rfl
set_option maxRecDepth 30000 in
theorem x_max2 : Cond.code Lib.Math.max.name Lib.Math.max.code 2 (some .int) ∈ lw_tbl := x_t 744 rfl
set_option maxRecDepth 30000 in
theorem x_math : Cond.initialized "java/lang/Math" ∈ lw_tbl := x_t 10 rfl
set_option maxRecDepth 30000 in
theorem x_ac1 : Cond.native arraycopyName ∈ lw_tbl := x_t 465 rfl
set_option maxRecDepth 30000 in
theorem x_ac2 : Cond.static arraycopyName ∈ lw_tbl := x_t 464 rfl
set_option maxRecDepth 30000 in
theorem x_ac3 : Cond.initialized "java/lang/System" ∈ lw_tbl := x_t 11 rfl
theorem x_tyk (c : Nat) (hc : c < 10) (k : Nat) (hk : k < xNF c) : xtc (xkT c k) ≠ 9 := by
  have h : ∀ c, c < 10 → ∀ k, k < xNF c → xtc (xkT c k) ≠ 9 := by decide +kernel
  exact h c hc k hk
/-! a step of the small machine is a step of the machine -/
def xTs : List Cond := lw_tbl.filter goodWord
theorem xTs_of {w : Cond} (h : w ∈ lw_tbl) (hg : goodWord w = true) : w ∈ xTs := List.mem_filter.mpr ⟨h, hg⟩
theorem xTs_lays (c : Nat) (hc : c < 10) : ∀ w ∈ u_ws (xkC c).1 (xkC c).2.1 (xkC c).2.2, w ∈ xTs := by
  intro w hw
  refine xTs_of ((x_kc c hc).2.2.1 w hw) ?_
  obtain ⟨j, -, rfl⟩ := List.mem_map.mp hw
  unfold u_lay
  split <;> rfl
/-- words that aren't among the tables' steady ones: nest mates' links, the array over State, the texts -/
def xZ (sa : UInt32 → Nat) (U : State) : Prop := (∀ e ∈ xFN, va_Nw (xfn e) U) ∧ (∀ e ∈ xVN, va_Nw (xvn e) U) ∧ va_AO "LastAsked$State" U ∧ ∀ e ∈ xKS, vk_R (xR e.1) e.2.1 (xStr.getD e.2.2 "") (sa (UInt32.ofNat e.2.2)) U
theorem xZ.warm {sa : UInt32 → Nat} {s U : State} (hW : s.WarmedH U.vm) (h : xZ sa s) : xZ sa U :=
  ⟨fun e he => va_Nw.warmF hW (h.1 e he), fun e he => va_Nw.warmM hW (h.2.1 e he), va_AO.moved hW.alike h.2.2.1, fun e he => vk_R.warm hW (h.2.2.2 e he)⟩
theorem xZ.same {sa : UInt32 → Nat} {u U : State} (hv : u.vm = U.vm) (h : xZ sa u) : xZ sa U :=
  ⟨fun e he => va_Nw.same rfl hv (h.1 e he), fun e he => va_Nw.same rfl hv (h.2.1 e he), va_AO.moved (by rw [hv]; exact Vm.Alike.refl _) h.2.2.1, fun e he => vk_R.same hv.symm (h.2.2.2 e he)⟩
theorem xl1 {b : ByteArray} {pc n len : Nat} {i : Instr} (hx : xlen i = n) (hn : n ≠ 0) (h : xlen i = 0 ∨ xlen i = len) (hd : decode b pc = .ok (i, len)) : decode b pc = .ok (i, n) := by
  rcases h with h | h
  · exact absurd (hx.symm.trans h) hn
  · rw [← hx, h]; exact hd
theorem xinj {a a' : Nat} {b b' c c' : List Value} {d d' : xM} (h : (some (a, b, c, d) : Option xSt) = some (a', b', c', d')) : a = a' ∧ b = b' ∧ c = c' ∧ d = d' := by
  cases h
  exact ⟨rfl, rfl, rfl, rfl⟩
section XS
variable {p : Program} {l : Launch} {e : Env} {R : Room} {s : State} {m : MethodId} {args : Array Value} {below : List Frame} {meth : Method} {c : Code} {Q : State → Prop} {dd : va_G} {cy : Nat → ClassId} {z : Nat} {sa : UInt32 → Nat} {n0 u0 : Nat}
theorem x_ldcwS (hexec : p.tables.exec = Jvm.exec) {cc : ByteArray} (hb : c.code = cc) {H : Heap} {locs : List Loc} {cells slots pc : Nat} {ls : Array Slot} {rest : List Value} {own tx : String} {index q : Nat} (hown : s.vm.findClass own = some m.cls) (hZ : vk_R own index tx q s) (hdg : decode cc pc = .ok (.ldc_w index, 3))
    (k : W p l e R s m args below meth c H locs cells slots Q (F0 m (pc + 3) ls (.ref q :: rest))) : W p l e R s m args below meth c H locs cells slots Q (F0 m pc ls rest) := by
  intro T hT X
  obtain ⟨t, a1, b1⟩ := k T hT X
  refine ⟨t, ?_, b1⟩
  subst hb
  obtain ⟨k, cf, i, a', hk, hcf, hcp, -, hr, hev'⟩ := Cond.stringRef_spec hown hZ.1
  cases hZ.2.symm.trans hev'
  obtain ⟨k', hk', he⟩ := X.warmed.alike.2.2 _ _ hk
  have hr' : k'.resolved[index]? = some (some (.string q)) := by
    rcases X.warmed.entry hk hk' index with h | ⟨h, -⟩
    · rw [h]; exact hr
    · rw [hr] at h; cases h
  jvm_step X.here [hexec, hdg, ldc_w.wp_string (e := e) (s := T) (f := F0 m pc ls rest) X.here.top hk' (by rw [he]; exact hcf) hcp hr']
  exact a1
def xCx (dd : va_G) (cy : Nat → ClassId) (sa : UInt32 → Nat) (p : Program) (s : State) (m : MethodId) (args : Array Value) (meth : Method) (c : Code) (k : Nat) : Prop :=
  p.tables.exec = Jvm.exec ∧ c.code = (xE k).2.1 ∧ c.maxLocals = (xE k).2.2.1 ∧ s.vm.findClass (xR (xE k).2.2.2.2.1) = some m.cls ∧ (∀ w ∈ xTs, w.before args s = true) ∧ meth.name = (xE k).1.name ∧ va_K dd vwC2 (xty cy) s ∧ xZ sa s
def xG (p : Program) (l : Launch) (e : Env) (R : Room) (s : State) (m : MethodId) (args : Array Value) (below : List Frame) (meth : Method) (c : Code) (Q : State → Prop) (dd : va_G) (cy : Nat → ClassId) (z : Nat) (sa : UInt32 → Nat) (n0 u0 : Nat) (pc : Nat) (ls st : List Value) (σ : xM) : Prop :=
  ∀ (arr : Array Slot) (H : Heap) (locs : List Loc), xL (xad z sa) ls arr c.maxLocals → va_P dd vwC2 (xW cy (xad z sa) σ) H → n0 ≤ mN σ → u0 ≤ mU σ → va_S (fun q => z ≤ q) s.heap H locs → W p l e R s m args below meth c H locs (mN σ - n0) (mU σ - u0) Q (F0 m pc arr (st.map (xv (xad z sa))))
/-- the heap's size is known -/
theorem x_size {σ : xM} {H : Heap} {locs : List Loc} {g : JFrame} {cells slots : Nat} (hz : s.heap.size = z + n0) (hP : va_P dd vwC2 (xW cy (xad z sa) σ) H) (h0 : n0 ≤ mN σ) (hc : cells = mN σ - n0) (hS : va_S (fun q => z ≤ q) s.heap H locs)
    (kk : H.size = z + mN σ → W p l e R s m args below meth c H locs cells slots Q g) : W p l e R s m args below meth c H locs cells slots Q g := by
  intro T hT X
  have h1 := X.heapSize
  rw [hT] at h1
  have h2 := hS.1
  refine kk ?_ T hT X
  rcases Nat.lt_or_ge n0 (mN σ) with h3 | h3
  · have h4 := (hP (mN σ - 1) _ (xW_at cy (xad z sa) σ (by omega))).lt
    have h5 : z + (mN σ - 1) < H.size := h4
    omega
  · omega
/-- a new cell's address is known -/
theorem x_fresh {σ : xM} {H : Heap} {locs : List Loc} {g : Nat → JFrame} {cells slots q : Nat} {en : va_E} (hz : s.heap.size = z + n0) (h0 : n0 ≤ mN σ) (hc : cells = mN σ - n0 + 1) (hP : va_P dd vwC2 (xW cy (xad z sa) σ ++ [(q, en)]) H) (hD : va_D (fun q => z ≤ q) (xW cy (xad z sa) σ ++ [(q, en)]))
    (kk : q = (xad z sa).1 (mN σ) → W p l e R s m args below meth c H locs cells slots Q (g q)) : W p l e R s m args below meth c H locs cells slots Q (g q) := by
  intro T hT X
  have h1 := X.heapSize
  rw [hT] at h1
  refine kk ?_ T hT X
  have hlen : (xW cy (xad z sa) σ).length = mN σ := by simp [xW]
  have hq : (xW cy (xad z sa) σ ++ [(q, en)])[mN σ]? = some (q, en) := by
    rw [List.getElem?_append_right (by omega), hlen]
    simp
  have h2 := (hP (mN σ) _ hq).lt
  have h3 := hD.2 (mN σ) _ hq
  show q = z + mN σ
  simp only at h2 h3
  by_cases h5 : q = z + mN σ
  · exact h5
  · exfalso
    have h6 : q - z < mN σ := by omega
    have h7 : (xW cy (xad z sa) σ ++ [(q, en)])[q - z]? = some ((xad z sa).1 (q - z), xC cy (xad z sa) σ (q - z)) := by
      rw [List.getElem?_append_left (by omega)]
      exact xW_at cy (xad z sa) σ h6
    have h8 := hD.1 (q - z) (mN σ) _ _ h7 hq (show z + (q - z) = q by omega)
    omega
def xOk (i : Instr) : Prop := ∀ (p : Program) (l : Launch) (e : Env) (R : Room) (s : State) (m : MethodId) (args : Array Value) (below : List Frame) (meth : Method) (c : Code) (Q : State → Prop) (dd : va_G) (cy : Nat → ClassId) (z : Nat) (sa : UInt32 → Nat) (n0 u0 : Nat) (k d pc len rn : Nat) (ri : Int32) (rl : Int64) (ls st : List Value) (σ : xM) (pc' : Nat) (ls' st' : List Value) (σ' : xM),
    xCx dd cy sa p s m args meth c k → (d ≤ R.frames ∧ 42 * d ≤ R.locals) → s.heap.size = z + n0 → (mN σ' - n0 ≤ R.cells ∧ mU σ' - u0 ≤ R.slots) → decode (xE k).2.1 pc = .ok (i, len) → (xlen i = 0 ∨ xlen i = len) → xokI (xE k).2.2.2.2.1 (decide ((xE k).1.name = "<init>")) pc i rn ri rl = true →
    xstep d i rn ri rl pc ls st σ = some (pc', ls', st', σ') → xG p l e R s m args below meth c Q dd cy z sa n0 u0 pc' ls' st' σ' → xG p l e R s m args below meth c Q dd cy z sa n0 u0 pc ls st σ
set_option maxHeartbeats 1000000 in
theorem xs_iconst (n : Int) : xOk (.iconst n) := by
  intro p l e R s m args below meth c Q dd cy z sa n0 u0 k d pc len rn ri rl ls st σ pc' ls' st' σ' C hR hz hcap hdg hlen hok h kk
  obtain ⟨hx, hb, hml, hown, hts, hname, hK, hZ⟩ := C
  unfold xstep at h
  dsimp only at h
  cases h
  exact fun arr H locs a1 a2 a4 a5 a6 => lv_iconst hx hb (xl1 rfl (by decide) hlen hdg) (of_decide_eq_true hok) (kk arr H locs a1 a2 a4 a5 a6)
set_option maxHeartbeats 1000000 in
theorem xs_bipush (n : Int) : xOk (.bipush n) := by
  intro p l e R s m args below meth c Q dd cy z sa n0 u0 k d pc len rn ri rl ls st σ pc' ls' st' σ' C hR hz hcap hdg hlen hok h kk
  obtain ⟨hx, hb, hml, hown, hts, hname, hK, hZ⟩ := C
  unfold xstep at h
  dsimp only at h
  cases h
  exact fun arr H locs a1 a2 a4 a5 a6 => lv_bipush hx hb (xl1 rfl (by decide) hlen hdg) (of_decide_eq_true hok) (kk arr H locs a1 a2 a4 a5 a6)
set_option maxHeartbeats 1000000 in
theorem xs_sipush (n : Int) : xOk (.sipush n) := by
  intro p l e R s m args below meth c Q dd cy z sa n0 u0 k d pc len rn ri rl ls st σ pc' ls' st' σ' C hR hz hcap hdg hlen hok h kk
  obtain ⟨hx, hb, hml, hown, hts, hname, hK, hZ⟩ := C
  unfold xstep at h
  dsimp only at h
  cases h
  exact fun arr H locs a1 a2 a4 a5 a6 => lv_sipush hx hb (xl1 rfl (by decide) hlen hdg) (of_decide_eq_true hok) (kk arr H locs a1 a2 a4 a5 a6)
set_option maxHeartbeats 1000000 in
theorem xs_lconst (n : Fin 2) : xOk (.lconst n) := by
  intro p l e R s m args below meth c Q dd cy z sa n0 u0 k d pc len rn ri rl ls st σ pc' ls' st' σ' C hR hz hcap hdg hlen hok h kk
  obtain ⟨hx, hb, hml, hown, hts, hname, hK, hZ⟩ := C
  unfold xstep at h
  dsimp only at h
  cases h
  exact fun arr H locs a1 a2 a4 a5 a6 => lv_lconst hx hb (xl1 rfl (by decide) hlen hdg) (of_decide_eq_true hok) (kk arr H locs a1 a2 a4 a5 a6)
set_option maxHeartbeats 1000000 in
theorem xs_ldc (ix : Nat) : xOk (.ldc ix) := by
  intro p l e R s m args below meth c Q dd cy z sa n0 u0 k d pc len rn ri rl ls st σ pc' ls' st' σ' C hR hz hcap hdg hlen hok h kk
  obtain ⟨hx, hb, hml, hown, hts, hname, hK, hZ⟩ := C
  unfold xstep at h
  dsimp only at h
  split at h
  · rename_i hlt
    cases h
    simp only [xokI, if_pos hlt] at hok
    exact fun arr H locs a1 a2 a4 a5 a6 => lv_ldc hx hb hown (hts _ (xTs_of (x_ki (of_decide_eq_true hok)) rfl)) (xl1 rfl (by decide) hlen hdg) (kk arr H locs a1 a2 a4 a5 a6)
  · rename_i hlt
    cases h
    simp only [xokI, if_neg hlt] at hok
    have hv : vk_R (xR (xE k).2.2.2.2.1) ix (xStr.getD (rn - 1000) "") (sa (UInt32.ofNat (rn - 1000))) s := hZ.2.2.2 (_, ix, rn - 1000) (xm3_in hok)
    generalize UInt32.ofNat (rn - 1000) = b at kk hv
    generalize xStr.getD (rn - 1000) "" = tx at hv
    intro arr H locs a1 a2 a4 a5 a6
    have hk := (kk arr H locs a1 a2 a4 a5 a6)
    exact va_ldcS (q := sa b) hx hb hown hv (xl1 rfl (by decide) hlen hdg) hk
set_option maxHeartbeats 1000000 in
theorem xs_ldc_w (ix : Nat) : xOk (.ldc_w ix) := by
  intro p l e R s m args below meth c Q dd cy z sa n0 u0 k d pc len rn ri rl ls st σ pc' ls' st' σ' C hR hz hcap hdg hlen hok h kk
  obtain ⟨hx, hb, hml, hown, hts, hname, hK, hZ⟩ := C
  unfold xstep at h
  dsimp only at h
  split at h
  · rename_i hlt
    cases h
    simp only [xokI, if_pos hlt] at hok
    exact fun arr H locs a1 a2 a4 a5 a6 => lv_ldcw hx hb hown (hts _ (xTs_of (x_ki (of_decide_eq_true hok)) rfl)) (xl1 rfl (by decide) hlen hdg) (kk arr H locs a1 a2 a4 a5 a6)
  · rename_i hlt
    cases h
    simp only [xokI, if_neg hlt] at hok
    have hv : vk_R (xR (xE k).2.2.2.2.1) ix (xStr.getD (rn - 1000) "") (sa (UInt32.ofNat (rn - 1000))) s := hZ.2.2.2 (_, ix, rn - 1000) (xm3_in hok)
    generalize UInt32.ofNat (rn - 1000) = b at kk hv
    generalize xStr.getD (rn - 1000) "" = tx at hv
    intro arr H locs a1 a2 a4 a5 a6
    have hk := (kk arr H locs a1 a2 a4 a5 a6)
    exact x_ldcwS (q := sa b) hx hb hown hv (xl1 rfl (by decide) hlen hdg) hk
set_option maxHeartbeats 1000000 in
theorem xs_ldc2_w (ix : Nat) : xOk (.ldc2_w ix) := by
  intro p l e R s m args below meth c Q dd cy z sa n0 u0 k d pc len rn ri rl ls st σ pc' ls' st' σ' C hR hz hcap hdg hlen hok h kk
  obtain ⟨hx, hb, hml, hown, hts, hname, hK, hZ⟩ := C
  unfold xstep at h
  dsimp only at h
  cases h
  exact fun arr H locs a1 a2 a4 a5 a6 => lv_ldc2 hx hb hown (hts _ (xTs_of (x_kl (of_decide_eq_true hok)) rfl)) (xl1 rfl (by decide) hlen hdg) (kk arr H locs a1 a2 a4 a5 a6)
set_option maxHeartbeats 1000000 in
theorem xs_iload_n (n : Fin 4) : xOk (.iload_n n) := by
  intro p l e R s m args below meth c Q dd cy z sa n0 u0 k d pc len rn ri rl ls st σ pc' ls' st' σ' C hR hz hcap hdg hlen hok h kk
  obtain ⟨hx, hb, hml, hown, hts, hname, hK, hZ⟩ := C
  unfold xstep at h
  dsimp only at h
  split at h
  · rename_i hh
    cases h
    exact fun arr H locs a1 a2 a4 a5 a6 => lv_iload_n hx hb (xl1 rfl (by decide) hlen hdg) rfl (a1.int hh) (kk arr H locs a1 a2 a4 a5 a6)
  · cases h
set_option maxHeartbeats 1000000 in
theorem xs_iload (n : Nat) : xOk (.iload n) := by
  intro p l e R s m args below meth c Q dd cy z sa n0 u0 k d pc len rn ri rl ls st σ pc' ls' st' σ' C hR hz hcap hdg hlen hok h kk
  obtain ⟨hx, hb, hml, hown, hts, hname, hK, hZ⟩ := C
  unfold xstep at h
  dsimp only at h
  split at h
  · rename_i hh
    cases h
    exact fun arr H locs a1 a2 a4 a5 a6 => lv_iload hx hb (xl1 rfl (by decide) hlen hdg) (a1.int hh) (kk arr H locs a1 a2 a4 a5 a6)
  · cases h
set_option maxHeartbeats 1000000 in
theorem xs_lload_n (n : Fin 4) : xOk (.lload_n n) := by
  intro p l e R s m args below meth c Q dd cy z sa n0 u0 k d pc len rn ri rl ls st σ pc' ls' st' σ' C hR hz hcap hdg hlen hok h kk
  obtain ⟨hx, hb, hml, hown, hts, hname, hK, hZ⟩ := C
  unfold xstep at h
  dsimp only at h
  split at h
  · rename_i hh hh2
    cases h
    exact fun arr H locs a1 a2 a4 a5 a6 => lv_lload_n hx hb (xl1 rfl (by decide) hlen hdg) rfl (a1.long hh hh2) (kk arr H locs a1 a2 a4 a5 a6)
  · cases h
set_option maxHeartbeats 1000000 in
theorem xs_lload (n : Nat) : xOk (.lload n) := by
  intro p l e R s m args below meth c Q dd cy z sa n0 u0 k d pc len rn ri rl ls st σ pc' ls' st' σ' C hR hz hcap hdg hlen hok h kk
  obtain ⟨hx, hb, hml, hown, hts, hname, hK, hZ⟩ := C
  unfold xstep at h
  dsimp only at h
  split at h
  · rename_i hh hh2
    cases h
    exact fun arr H locs a1 a2 a4 a5 a6 => lv_lload hx hb (xl1 rfl (by decide) hlen hdg) (a1.long hh hh2) (kk arr H locs a1 a2 a4 a5 a6)
  · cases h
set_option maxHeartbeats 1000000 in
theorem xs_aload_n (n : Fin 4) : xOk (.aload_n n) := by
  intro p l e R s m args below meth c Q dd cy z sa n0 u0 k d pc len rn ri rl ls st σ pc' ls' st' σ' C hR hz hcap hdg hlen hok h kk
  obtain ⟨hx, hb, hml, hown, hts, hname, hK, hZ⟩ := C
  unfold xstep at h
  dsimp only at h
  split at h
  · rename_i hh
    cases h
    exact fun arr H locs a1 a2 a4 a5 a6 => lv_aload_n hx hb (xl1 rfl (by decide) hlen hdg) rfl (a1.ref hh) (kk arr H locs a1 a2 a4 a5 a6)
  · rename_i hh
    cases h
    exact fun arr H locs a1 a2 a4 a5 a6 => lv_aload_n hx hb (xl1 rfl (by decide) hlen hdg) rfl (a1.text hh) (kk arr H locs a1 a2 a4 a5 a6)
  · cases h
set_option maxHeartbeats 1000000 in
theorem xs_aload (n : Nat) : xOk (.aload n) := by
  intro p l e R s m args below meth c Q dd cy z sa n0 u0 k d pc len rn ri rl ls st σ pc' ls' st' σ' C hR hz hcap hdg hlen hok h kk
  obtain ⟨hx, hb, hml, hown, hts, hname, hK, hZ⟩ := C
  unfold xstep at h
  dsimp only at h
  split at h
  · rename_i hh
    cases h
    exact fun arr H locs a1 a2 a4 a5 a6 => lv_aload hx hb (xl1 rfl (by decide) hlen hdg) (a1.ref hh) (kk arr H locs a1 a2 a4 a5 a6)
  · cases h
set_option maxHeartbeats 1000000 in
theorem xs_istore_n (n : Fin 4) : xOk (.istore_n n) := by
  intro p l e R s m args below meth c Q dd cy z sa n0 u0 k d pc len rn ri rl ls st σ pc' ls' st' σ' C hR hz hcap hdg hlen hok h kk
  obtain ⟨hx, hb, hml, hown, hts, hname, hK, hZ⟩ := C
  unfold xstep at h
  dsimp only at h
  split at h
  · split at h
    · rename_i hlt
      cases h
      exact fun arr H locs a1 a2 a4 a5 a6 => lv_istore_n hx hb (xl1 rfl (by decide) hlen hdg) rfl a1.2 (a1.1 ▸ hlt) rfl (fun arr2 hl => kk arr2 H locs (xL_set1 rfl a1.1 hl) a2 a4 a5 a6)
    · cases h
  · cases h
set_option maxHeartbeats 1000000 in
theorem xs_istore (n : Nat) : xOk (.istore n) := by
  intro p l e R s m args below meth c Q dd cy z sa n0 u0 k d pc len rn ri rl ls st σ pc' ls' st' σ' C hR hz hcap hdg hlen hok h kk
  obtain ⟨hx, hb, hml, hown, hts, hname, hK, hZ⟩ := C
  unfold xstep at h
  dsimp only at h
  split at h
  · split at h
    · rename_i hlt
      cases h
      exact fun arr H locs a1 a2 a4 a5 a6 => lv_istore hx hb (xl1 rfl (by decide) hlen hdg) a1.2 (a1.1 ▸ hlt) rfl (fun arr2 hl => kk arr2 H locs (xL_set1 rfl a1.1 hl) a2 a4 a5 a6)
    · cases h
  · cases h
set_option maxHeartbeats 1000000 in
theorem xs_lstore_n (n : Fin 4) : xOk (.lstore_n n) := by
  intro p l e R s m args below meth c Q dd cy z sa n0 u0 k d pc len rn ri rl ls st σ pc' ls' st' σ' C hR hz hcap hdg hlen hok h kk
  obtain ⟨hx, hb, hml, hown, hts, hname, hK, hZ⟩ := C
  unfold xstep at h
  dsimp only at h
  split at h
  · split at h
    · rename_i hlt
      cases h
      exact fun arr H locs a1 a2 a4 a5 a6 => lv_lstore_n hx hb (xl1 rfl (by decide) hlen hdg) rfl a1.2 (a1.1 ▸ hlt) rfl (fun arr2 hl => kk arr2 H locs (xL_set2 a1.1 hl) a2 a4 a5 a6)
    · cases h
  · cases h
set_option maxHeartbeats 1000000 in
theorem xs_lstore (n : Nat) : xOk (.lstore n) := by
  intro p l e R s m args below meth c Q dd cy z sa n0 u0 k d pc len rn ri rl ls st σ pc' ls' st' σ' C hR hz hcap hdg hlen hok h kk
  obtain ⟨hx, hb, hml, hown, hts, hname, hK, hZ⟩ := C
  unfold xstep at h
  dsimp only at h
  split at h
  · split at h
    · rename_i hlt
      cases h
      exact fun arr H locs a1 a2 a4 a5 a6 => lv_lstore hx hb (xl1 rfl (by decide) hlen hdg) a1.2 (a1.1 ▸ hlt) rfl (fun arr2 hl => kk arr2 H locs (xL_set2 a1.1 hl) a2 a4 a5 a6)
    · cases h
  · cases h
set_option maxHeartbeats 1000000 in
theorem xs_astore_n (n : Fin 4) : xOk (.astore_n n) := by
  intro p l e R s m args below meth c Q dd cy z sa n0 u0 k d pc len rn ri rl ls st σ pc' ls' st' σ' C hR hz hcap hdg hlen hok h kk
  obtain ⟨hx, hb, hml, hown, hts, hname, hK, hZ⟩ := C
  unfold xstep at h
  dsimp only at h
  split at h
  · split at h
    · rename_i hlt
      cases h
      exact fun arr H locs a1 a2 a4 a5 a6 => lv_astore_n hx hb (xl1 rfl (by decide) hlen hdg) rfl a1.2 (a1.1 ▸ hlt) rfl (fun arr2 hl => kk arr2 H locs (xL_set1 rfl a1.1 hl) a2 a4 a5 a6)
    · cases h
  · cases h
set_option maxHeartbeats 1000000 in
theorem xs_iinc (n : Nat) (w : Int) : xOk (.iinc n w) := by
  intro p l e R s m args below meth c Q dd cy z sa n0 u0 k d pc len rn ri rl ls st σ pc' ls' st' σ' C hR hz hcap hdg hlen hok h kk
  obtain ⟨hx, hb, hml, hown, hts, hname, hK, hZ⟩ := C
  unfold xstep at h
  dsimp only at h
  split at h
  · rename_i x hh
    cases h
    intro arr H locs a1 a2 a4 a5 a6
    have hc1 := xcl_of (ad := xad z sa) (ls := ls) (i := n) (q := (n, Value.int x)) (by simp only [xclaim, hh])
    obtain ⟨kq, hkq⟩ := List.getElem?_of_mem hc1
    exact lv_iinc hx hb (xl1 rfl (by decide) hlen hdg) a1.2 hkq (by rw [of_decide_eq_true hok]) (a1.1 ▸ (List.getElem?_eq_some_iff.mp hh).1) rfl (fun arr2 hl => kk arr2 H locs (xL_set1 rfl a1.1 hl) a2 a4 a5 a6)
  · cases h
set_option maxHeartbeats 1000000 in
theorem xs_iadd : xOk (.iadd) := by
  intro p l e R s m args below meth c Q dd cy z sa n0 u0 k d pc len rn ri rl ls st σ pc' ls' st' σ' C hR hz hcap hdg hlen hok h kk
  obtain ⟨hx, hb, hml, hown, hts, hname, hK, hZ⟩ := C
  unfold xstep at h
  dsimp only at h
  split at h
  · cases h
    exact fun arr H locs a1 a2 a4 a5 a6 => lv_iadd hx hb (xl1 rfl (by decide) hlen hdg) (kk arr H locs a1 a2 a4 a5 a6)
  · cases h
set_option maxHeartbeats 1000000 in
theorem xs_isub : xOk (.isub) := by
  intro p l e R s m args below meth c Q dd cy z sa n0 u0 k d pc len rn ri rl ls st σ pc' ls' st' σ' C hR hz hcap hdg hlen hok h kk
  obtain ⟨hx, hb, hml, hown, hts, hname, hK, hZ⟩ := C
  unfold xstep at h
  dsimp only at h
  split at h
  · cases h
    exact fun arr H locs a1 a2 a4 a5 a6 => lv_isub hx hb (xl1 rfl (by decide) hlen hdg) (kk arr H locs a1 a2 a4 a5 a6)
  · cases h
set_option maxHeartbeats 1000000 in
theorem xs_imul : xOk (.imul) := by
  intro p l e R s m args below meth c Q dd cy z sa n0 u0 k d pc len rn ri rl ls st σ pc' ls' st' σ' C hR hz hcap hdg hlen hok h kk
  obtain ⟨hx, hb, hml, hown, hts, hname, hK, hZ⟩ := C
  unfold xstep at h
  dsimp only at h
  split at h
  · cases h
    exact fun arr H locs a1 a2 a4 a5 a6 => lv_imul hx hb (xl1 rfl (by decide) hlen hdg) (kk arr H locs a1 a2 a4 a5 a6)
  · cases h
set_option maxHeartbeats 1000000 in
theorem xs_iand : xOk (.iand) := by
  intro p l e R s m args below meth c Q dd cy z sa n0 u0 k d pc len rn ri rl ls st σ pc' ls' st' σ' C hR hz hcap hdg hlen hok h kk
  obtain ⟨hx, hb, hml, hown, hts, hname, hK, hZ⟩ := C
  unfold xstep at h
  dsimp only at h
  split at h
  · cases h
    exact fun arr H locs a1 a2 a4 a5 a6 => lv_iand hx hb (xl1 rfl (by decide) hlen hdg) (kk arr H locs a1 a2 a4 a5 a6)
  · cases h
set_option maxHeartbeats 1000000 in
theorem xs_ior : xOk (.ior) := by
  intro p l e R s m args below meth c Q dd cy z sa n0 u0 k d pc len rn ri rl ls st σ pc' ls' st' σ' C hR hz hcap hdg hlen hok h kk
  obtain ⟨hx, hb, hml, hown, hts, hname, hK, hZ⟩ := C
  unfold xstep at h
  dsimp only at h
  split at h
  · cases h
    exact fun arr H locs a1 a2 a4 a5 a6 => lv_ior hx hb (xl1 rfl (by decide) hlen hdg) (kk arr H locs a1 a2 a4 a5 a6)
  · cases h
set_option maxHeartbeats 1000000 in
theorem xs_ixor : xOk (.ixor) := by
  intro p l e R s m args below meth c Q dd cy z sa n0 u0 k d pc len rn ri rl ls st σ pc' ls' st' σ' C hR hz hcap hdg hlen hok h kk
  obtain ⟨hx, hb, hml, hown, hts, hname, hK, hZ⟩ := C
  unfold xstep at h
  dsimp only at h
  split at h
  · cases h
    exact fun arr H locs a1 a2 a4 a5 a6 => lv_ixor hx hb (xl1 rfl (by decide) hlen hdg) (kk arr H locs a1 a2 a4 a5 a6)
  · cases h
set_option maxHeartbeats 1000000 in
theorem xs_ishl : xOk (.ishl) := by
  intro p l e R s m args below meth c Q dd cy z sa n0 u0 k d pc len rn ri rl ls st σ pc' ls' st' σ' C hR hz hcap hdg hlen hok h kk
  obtain ⟨hx, hb, hml, hown, hts, hname, hK, hZ⟩ := C
  unfold xstep at h
  dsimp only at h
  split at h
  · cases h
    exact fun arr H locs a1 a2 a4 a5 a6 => lv_ishl hx hb (xl1 rfl (by decide) hlen hdg) (kk arr H locs a1 a2 a4 a5 a6)
  · cases h
set_option maxHeartbeats 1000000 in
theorem xs_ishr : xOk (.ishr) := by
  intro p l e R s m args below meth c Q dd cy z sa n0 u0 k d pc len rn ri rl ls st σ pc' ls' st' σ' C hR hz hcap hdg hlen hok h kk
  obtain ⟨hx, hb, hml, hown, hts, hname, hK, hZ⟩ := C
  unfold xstep at h
  dsimp only at h
  split at h
  · cases h
    exact fun arr H locs a1 a2 a4 a5 a6 => lv_ishr hx hb (xl1 rfl (by decide) hlen hdg) (kk arr H locs a1 a2 a4 a5 a6)
  · cases h
set_option maxHeartbeats 1000000 in
theorem xs_iushr : xOk (.iushr) := by
  intro p l e R s m args below meth c Q dd cy z sa n0 u0 k d pc len rn ri rl ls st σ pc' ls' st' σ' C hR hz hcap hdg hlen hok h kk
  obtain ⟨hx, hb, hml, hown, hts, hname, hK, hZ⟩ := C
  unfold xstep at h
  dsimp only at h
  split at h
  · cases h
    exact fun arr H locs a1 a2 a4 a5 a6 => lv_iushr hx hb (xl1 rfl (by decide) hlen hdg) rfl (kk arr H locs a1 a2 a4 a5 a6)
  · cases h
set_option maxHeartbeats 1000000 in
theorem xs_idiv : xOk (.idiv) := by
  intro p l e R s m args below meth c Q dd cy z sa n0 u0 k d pc len rn ri rl ls st σ pc' ls' st' σ' C hR hz hcap hdg hlen hok h kk
  obtain ⟨hx, hb, hml, hown, hts, hname, hK, hZ⟩ := C
  unfold xstep at h
  dsimp only at h
  split at h
  · split at h
    · cases h
    · rename_i hne
      cases h
      exact fun arr H locs a1 a2 a4 a5 a6 => lv_idiv hx hb (xl1 rfl (by decide) hlen hdg) hne (kk arr H locs a1 a2 a4 a5 a6)
  · cases h
set_option maxHeartbeats 1000000 in
theorem xs_irem : xOk (.irem) := by
  intro p l e R s m args below meth c Q dd cy z sa n0 u0 k d pc len rn ri rl ls st σ pc' ls' st' σ' C hR hz hcap hdg hlen hok h kk
  obtain ⟨hx, hb, hml, hown, hts, hname, hK, hZ⟩ := C
  unfold xstep at h
  dsimp only at h
  split at h
  · split at h
    · cases h
    · rename_i hne
      cases h
      exact fun arr H locs a1 a2 a4 a5 a6 => lv_irem hx hb (xl1 rfl (by decide) hlen hdg) hne (kk arr H locs a1 a2 a4 a5 a6)
  · cases h
set_option maxHeartbeats 1000000 in
theorem xs_ineg : xOk (.ineg) := by
  intro p l e R s m args below meth c Q dd cy z sa n0 u0 k d pc len rn ri rl ls st σ pc' ls' st' σ' C hR hz hcap hdg hlen hok h kk
  obtain ⟨hx, hb, hml, hown, hts, hname, hK, hZ⟩ := C
  unfold xstep at h
  dsimp only at h
  split at h
  · cases h
    exact fun arr H locs a1 a2 a4 a5 a6 => lv_ineg hx hb (xl1 rfl (by decide) hlen hdg) (kk arr H locs a1 a2 a4 a5 a6)
  · cases h
set_option maxHeartbeats 1000000 in
theorem xs_ladd : xOk (.ladd) := by
  intro p l e R s m args below meth c Q dd cy z sa n0 u0 k d pc len rn ri rl ls st σ pc' ls' st' σ' C hR hz hcap hdg hlen hok h kk
  obtain ⟨hx, hb, hml, hown, hts, hname, hK, hZ⟩ := C
  unfold xstep at h
  dsimp only at h
  split at h
  · cases h
    exact fun arr H locs a1 a2 a4 a5 a6 => lv_ladd hx hb (xl1 rfl (by decide) hlen hdg) (kk arr H locs a1 a2 a4 a5 a6)
  · cases h
set_option maxHeartbeats 1000000 in
theorem xs_lmul : xOk (.lmul) := by
  intro p l e R s m args below meth c Q dd cy z sa n0 u0 k d pc len rn ri rl ls st σ pc' ls' st' σ' C hR hz hcap hdg hlen hok h kk
  obtain ⟨hx, hb, hml, hown, hts, hname, hK, hZ⟩ := C
  unfold xstep at h
  dsimp only at h
  split at h
  · cases h
    exact fun arr H locs a1 a2 a4 a5 a6 => lv_lmul hx hb (xl1 rfl (by decide) hlen hdg) (kk arr H locs a1 a2 a4 a5 a6)
  · cases h
set_option maxHeartbeats 1000000 in
theorem xs_lor : xOk (.lor) := by
  intro p l e R s m args below meth c Q dd cy z sa n0 u0 k d pc len rn ri rl ls st σ pc' ls' st' σ' C hR hz hcap hdg hlen hok h kk
  obtain ⟨hx, hb, hml, hown, hts, hname, hK, hZ⟩ := C
  unfold xstep at h
  dsimp only at h
  split at h
  · cases h
    exact fun arr H locs a1 a2 a4 a5 a6 => lv_lor hx hb (xl1 rfl (by decide) hlen hdg) (kk arr H locs a1 a2 a4 a5 a6)
  · cases h
set_option maxHeartbeats 1000000 in
theorem xs_ldiv : xOk (.ldiv) := by
  intro p l e R s m args below meth c Q dd cy z sa n0 u0 k d pc len rn ri rl ls st σ pc' ls' st' σ' C hR hz hcap hdg hlen hok h kk
  obtain ⟨hx, hb, hml, hown, hts, hname, hK, hZ⟩ := C
  unfold xstep at h
  dsimp only at h
  split at h
  · split at h
    · cases h
    · rename_i hne
      cases h
      exact fun arr H locs a1 a2 a4 a5 a6 => lv_ldiv hx hb (xl1 rfl (by decide) hlen hdg) hne (kk arr H locs a1 a2 a4 a5 a6)
  · cases h
set_option maxHeartbeats 1000000 in
theorem xs_lrem : xOk (.lrem) := by
  intro p l e R s m args below meth c Q dd cy z sa n0 u0 k d pc len rn ri rl ls st σ pc' ls' st' σ' C hR hz hcap hdg hlen hok h kk
  obtain ⟨hx, hb, hml, hown, hts, hname, hK, hZ⟩ := C
  unfold xstep at h
  dsimp only at h
  split at h
  · split at h
    · cases h
    · rename_i hne
      cases h
      exact fun arr H locs a1 a2 a4 a5 a6 => lv_lrem hx hb (xl1 rfl (by decide) hlen hdg) hne (kk arr H locs a1 a2 a4 a5 a6)
  · cases h
set_option maxHeartbeats 1000000 in
theorem xs_lshl : xOk (.lshl) := by
  intro p l e R s m args below meth c Q dd cy z sa n0 u0 k d pc len rn ri rl ls st σ pc' ls' st' σ' C hR hz hcap hdg hlen hok h kk
  obtain ⟨hx, hb, hml, hown, hts, hname, hK, hZ⟩ := C
  unfold xstep at h
  dsimp only at h
  split at h
  · cases h
    exact fun arr H locs a1 a2 a4 a5 a6 => lv_lshl hx hb (xl1 rfl (by decide) hlen hdg) rfl (kk arr H locs a1 a2 a4 a5 a6)
  · cases h
set_option maxHeartbeats 1000000 in
theorem xs_lcmp : xOk (.lcmp) := by
  intro p l e R s m args below meth c Q dd cy z sa n0 u0 k d pc len rn ri rl ls st σ pc' ls' st' σ' C hR hz hcap hdg hlen hok h kk
  obtain ⟨hx, hb, hml, hown, hts, hname, hK, hZ⟩ := C
  unfold xstep at h
  dsimp only at h
  split at h
  · cases h
    exact fun arr H locs a1 a2 a4 a5 a6 => W.lcmp hx hb (xl1 rfl (by decide) hlen hdg) (kk arr H locs a1 a2 a4 a5 a6)
  · cases h
set_option maxHeartbeats 1000000 in
theorem xs_i2l : xOk (.i2l) := by
  intro p l e R s m args below meth c Q dd cy z sa n0 u0 k d pc len rn ri rl ls st σ pc' ls' st' σ' C hR hz hcap hdg hlen hok h kk
  obtain ⟨hx, hb, hml, hown, hts, hname, hK, hZ⟩ := C
  unfold xstep at h
  dsimp only at h
  split at h
  · cases h
    exact fun arr H locs a1 a2 a4 a5 a6 => lv_i2l hx hb (xl1 rfl (by decide) hlen hdg) rfl (kk arr H locs a1 a2 a4 a5 a6)
  · cases h
set_option maxHeartbeats 1000000 in
theorem xs_l2i : xOk (.l2i) := by
  intro p l e R s m args below meth c Q dd cy z sa n0 u0 k d pc len rn ri rl ls st σ pc' ls' st' σ' C hR hz hcap hdg hlen hok h kk
  obtain ⟨hx, hb, hml, hown, hts, hname, hK, hZ⟩ := C
  unfold xstep at h
  dsimp only at h
  split at h
  · cases h
    exact fun arr H locs a1 a2 a4 a5 a6 => lv_l2i hx hb (xl1 rfl (by decide) hlen hdg) rfl (kk arr H locs a1 a2 a4 a5 a6)
  · cases h
set_option maxHeartbeats 1000000 in
theorem xs_i2b : xOk (.i2b) := by
  intro p l e R s m args below meth c Q dd cy z sa n0 u0 k d pc len rn ri rl ls st σ pc' ls' st' σ' C hR hz hcap hdg hlen hok h kk
  obtain ⟨hx, hb, hml, hown, hts, hname, hK, hZ⟩ := C
  unfold xstep at h
  dsimp only at h
  split at h
  · cases h
    exact fun arr H locs a1 a2 a4 a5 a6 => lv_i2b hx hb (xl1 rfl (by decide) hlen hdg) rfl (kk arr H locs a1 a2 a4 a5 a6)
  · cases h
set_option maxHeartbeats 1000000 in
theorem xs_dup : xOk (.dup) := by
  intro p l e R s m args below meth c Q dd cy z sa n0 u0 k d pc len rn ri rl ls st σ pc' ls' st' σ' C hR hz hcap hdg hlen hok h kk
  obtain ⟨hx, hb, hml, hown, hts, hname, hK, hZ⟩ := C
  unfold xstep at h
  dsimp only at h
  split at h
  · split at h
    · rename_i hc
      cases h
      exact fun arr H locs a1 a2 a4 a5 a6 => lv_dup hx hb (xl1 rfl (by decide) hlen hdg) (by rw [xv_cat]; exact hc) (kk arr H locs a1 a2 a4 a5 a6)
    · cases h
  · cases h
set_option maxHeartbeats 1000000 in
theorem xs_pop : xOk (.pop) := by
  intro p l e R s m args below meth c Q dd cy z sa n0 u0 k d pc len rn ri rl ls st σ pc' ls' st' σ' C hR hz hcap hdg hlen hok h kk
  obtain ⟨hx, hb, hml, hown, hts, hname, hK, hZ⟩ := C
  unfold xstep at h
  dsimp only at h
  split at h
  · split at h
    · rename_i hc
      cases h
      exact fun arr H locs a1 a2 a4 a5 a6 => lv_pop hx hb (xl1 rfl (by decide) hlen hdg) (by rw [xv_cat]; exact hc) (kk arr H locs a1 a2 a4 a5 a6)
    · cases h
  · cases h
set_option maxHeartbeats 1000000 in
theorem xs_dup2 : xOk (.dup2) := by
  intro p l e R s m args below meth c Q dd cy z sa n0 u0 k d pc len rn ri rl ls st σ pc' ls' st' σ' C hR hz hcap hdg hlen hok h kk
  obtain ⟨hx, hb, hml, hown, hts, hname, hK, hZ⟩ := C
  unfold xstep at h
  dsimp only at h
  split at h
  · split at h
    · rename_i hc
      cases h
      exact fun arr H locs a1 a2 a4 a5 a6 => lv_dup2_11 hx hb (xl1 rfl (by decide) hlen hdg) (by rw [xv_cat]; exact hc.1) (by rw [xv_cat]; exact hc.2) (kk arr H locs a1 a2 a4 a5 a6)
    · cases h
  · cases h
set_option maxHeartbeats 1000000 in
theorem xs_ifCond (cnd : ClassFile.Cond) (off : Int) : xOk (.ifCond cnd off) := by
  intro p l e R s m args below meth c Q dd cy z sa n0 u0 k d pc len rn ri rl ls st σ pc' ls' st' σ' C hR hz hcap hdg hlen hok h kk
  obtain ⟨hx, hb, hml, hown, hts, hname, hK, hZ⟩ := C
  unfold xstep at h
  dsimp only at h
  split at h
  · cases h
    intro arr H locs a1 a2 a4 a5 a6
    have hk := (kk arr H locs a1 a2 a4 a5 a6)
    cases cnd
    · refine lv_if_eq (tgt := rn) hx hb (xl1 rfl (by decide) hlen hdg) (of_decide_eq_true hok) (fun hc => ?_) (fun hc => ?_)
      · rw [show xcmp .eq _ 0 = true from decide_eq_true hc] at hk
        exact hk
      · rw [show xcmp .eq _ 0 = false from decide_eq_false hc] at hk
        exact hk
    · refine lv_if_ne (tgt := rn) hx hb (xl1 rfl (by decide) hlen hdg) (of_decide_eq_true hok) (fun hc => ?_) (fun hc => ?_)
      · rw [show xcmp .ne _ 0 = true from decide_eq_true hc] at hk
        exact hk
      · rw [show xcmp .ne _ 0 = false from decide_eq_false (fun q => q hc)] at hk
        exact hk
    · refine lv_if_lt (tgt := rn) hx hb (xl1 rfl (by decide) hlen hdg) (of_decide_eq_true hok) (fun hc => ?_) (fun hc => ?_)
      · rw [show xcmp .lt _ 0 = true from decide_eq_true hc] at hk
        exact hk
      · rw [show xcmp .lt _ 0 = false from decide_eq_false hc] at hk
        exact hk
    · refine lv_if_ge (tgt := rn) hx hb (xl1 rfl (by decide) hlen hdg) (of_decide_eq_true hok) (fun hc => ?_) (fun hc => ?_)
      · rw [show xcmp .ge _ 0 = true from decide_eq_true hc] at hk
        exact hk
      · rw [show xcmp .ge _ 0 = false from decide_eq_false hc] at hk
        exact hk
    · refine lv_if_gt (tgt := rn) hx hb (xl1 rfl (by decide) hlen hdg) (of_decide_eq_true hok) (fun hc => ?_) (fun hc => ?_)
      · rw [show xcmp .gt _ 0 = true from decide_eq_true hc] at hk
        exact hk
      · rw [show xcmp .gt _ 0 = false from decide_eq_false hc] at hk
        exact hk
    · refine lv_if_le (tgt := rn) hx hb (xl1 rfl (by decide) hlen hdg) (of_decide_eq_true hok) (fun hc => ?_) (fun hc => ?_)
      · rw [show xcmp .le _ 0 = true from decide_eq_true hc] at hk
        exact hk
      · rw [show xcmp .le _ 0 = false from decide_eq_false hc] at hk
        exact hk
  · cases h
set_option maxHeartbeats 1000000 in
theorem xs_if_icmp (cnd : ClassFile.Cond) (off : Int) : xOk (.if_icmp cnd off) := by
  intro p l e R s m args below meth c Q dd cy z sa n0 u0 k d pc len rn ri rl ls st σ pc' ls' st' σ' C hR hz hcap hdg hlen hok h kk
  obtain ⟨hx, hb, hml, hown, hts, hname, hK, hZ⟩ := C
  unfold xstep at h
  dsimp only at h
  split at h
  · cases h
    intro arr H locs a1 a2 a4 a5 a6
    have hk := (kk arr H locs a1 a2 a4 a5 a6)
    cases cnd
    · refine lv_icmp_eq (tgt := rn) hx hb (xl1 rfl (by decide) hlen hdg) (of_decide_eq_true hok) (fun hc => ?_) (fun hc => ?_)
      · rw [show xcmp .eq _ _ = true from decide_eq_true hc] at hk
        exact hk
      · rw [show xcmp .eq _ _ = false from decide_eq_false hc] at hk
        exact hk
    · refine lv_icmp_ne (tgt := rn) hx hb (xl1 rfl (by decide) hlen hdg) (of_decide_eq_true hok) (fun hc => ?_) (fun hc => ?_)
      · rw [show xcmp .ne _ _ = true from decide_eq_true hc] at hk
        exact hk
      · rw [show xcmp .ne _ _ = false from decide_eq_false (fun q => q hc)] at hk
        exact hk
    · refine lv_icmp_lt (tgt := rn) hx hb (xl1 rfl (by decide) hlen hdg) (of_decide_eq_true hok) (fun hc => ?_) (fun hc => ?_)
      · rw [show xcmp .lt _ _ = true from decide_eq_true hc] at hk
        exact hk
      · rw [show xcmp .lt _ _ = false from decide_eq_false hc] at hk
        exact hk
    · refine lv_icmp_ge (tgt := rn) hx hb (xl1 rfl (by decide) hlen hdg) (of_decide_eq_true hok) (fun hc => ?_) (fun hc => ?_)
      · rw [show xcmp .ge _ _ = true from decide_eq_true hc] at hk
        exact hk
      · rw [show xcmp .ge _ _ = false from decide_eq_false hc] at hk
        exact hk
    · refine lv_icmp_gt (tgt := rn) hx hb (xl1 rfl (by decide) hlen hdg) (of_decide_eq_true hok) (fun hc => ?_) (fun hc => ?_)
      · rw [show xcmp .gt _ _ = true from decide_eq_true hc] at hk
        exact hk
      · rw [show xcmp .gt _ _ = false from decide_eq_false hc] at hk
        exact hk
    · refine lv_icmp_le (tgt := rn) hx hb (xl1 rfl (by decide) hlen hdg) (of_decide_eq_true hok) (fun hc => ?_) (fun hc => ?_)
      · rw [show xcmp .le _ _ = true from decide_eq_true hc] at hk
        exact hk
      · rw [show xcmp .le _ _ = false from decide_eq_false hc] at hk
        exact hk
  · cases h
set_option maxHeartbeats 1000000 in
theorem xs_ifnull (off : Int) : xOk (.ifnull off) := by
  intro p l e R s m args below meth c Q dd cy z sa n0 u0 k d pc len rn ri rl ls st σ pc' ls' st' σ' C hR hz hcap hdg hlen hok h kk
  obtain ⟨hx, hb, hml, hown, hts, hname, hK, hZ⟩ := C
  unfold xstep at h
  dsimp only at h
  split at h
  · cases h
    exact fun arr H locs a1 a2 a4 a5 a6 => lv_ifnullN hx hb (xl1 rfl (by decide) hlen hdg) (of_decide_eq_true hok) (kk arr H locs a1 a2 a4 a5 a6)
  · cases h
    exact fun arr H locs a1 a2 a4 a5 a6 => lv_ifnull hx hb (xl1 rfl (by decide) hlen hdg) (kk arr H locs a1 a2 a4 a5 a6)
  · cases h
set_option maxHeartbeats 1000000 in
theorem xs_ifnonnull (off : Int) : xOk (.ifnonnull off) := by
  intro p l e R s m args below meth c Q dd cy z sa n0 u0 k d pc len rn ri rl ls st σ pc' ls' st' σ' C hR hz hcap hdg hlen hok h kk
  obtain ⟨hx, hb, hml, hown, hts, hname, hK, hZ⟩ := C
  unfold xstep at h
  dsimp only at h
  split at h
  · cases h
    exact fun arr H locs a1 a2 a4 a5 a6 => lv_ifnonnullN hx hb (xl1 rfl (by decide) hlen hdg) (kk arr H locs a1 a2 a4 a5 a6)
  · cases h
    exact fun arr H locs a1 a2 a4 a5 a6 => lv_ifnonnull hx hb (xl1 rfl (by decide) hlen hdg) (of_decide_eq_true hok) (kk arr H locs a1 a2 a4 a5 a6)
  · cases h
set_option maxHeartbeats 1000000 in
theorem xs_goto (off : Int) : xOk (.goto off) := by
  intro p l e R s m args below meth c Q dd cy z sa n0 u0 k d pc len rn ri rl ls st σ pc' ls' st' σ' C hR hz hcap hdg hlen hok h kk
  obtain ⟨hx, hb, hml, hown, hts, hname, hK, hZ⟩ := C
  unfold xstep at h
  dsimp only at h
  cases h
  exact fun arr H locs a1 a2 a4 a5 a6 => lv_goto hx hb (xl1 rfl (by decide) hlen hdg) (of_decide_eq_true hok) (kk arr H locs a1 a2 a4 a5 a6)
set_option maxHeartbeats 1000000 in
theorem xs_tableswitch (df : Int) (lo : Int) (hi : Int) (offs : Array Int) : xOk (.tableswitch df lo hi offs) := by
  intro p l e R s m args below meth c Q dd cy z sa n0 u0 k d pc len rn ri rl ls st σ pc' ls' st' σ' C hR hz hcap hdg hlen hok h kk
  obtain ⟨hx, hb, hml, hown, hts, hname, hK, hZ⟩ := C
  unfold xstep at h
  dsimp only at h
  simp only [xokI, Bool.and_eq_true, decide_eq_true_eq] at hok
  split at h
  · split at h
    · rename_i hc
      cases h
      exact fun arr H locs a1 a2 a4 a5 a6 => lv_tableOut hx hb hdg hc (Int.toNat_of_nonneg hok.1).symm (kk arr H locs a1 a2 a4 a5 a6)
    · rename_i hc
      split at h
      · rename_i ho
        cases h
        have hmem := Array.mem_of_getElem? ho
        have hpos := of_decide_eq_true (List.all_eq_true.mp hok.2 _ (Array.mem_toList_iff.mpr hmem))
        exact fun arr H locs a1 a2 a4 a5 a6 => lv_tableIn hx hb hdg (fun q => hc (Or.inl q)) (fun q => hc (Or.inr q)) ho (Int.toNat_of_nonneg hpos).symm (kk arr H locs a1 a2 a4 a5 a6)
      · cases h
  · cases h
set_option maxHeartbeats 1000000 in
theorem xs_getfield (ix : Nat) : xOk (.getfield ix) := by
  intro p l e R s m args below meth c Q dd cy z sa n0 u0 k d pc len rn ri rl ls st σ pc' ls' st' σ' C hR hz hcap hdg hlen hok h kk
  obtain ⟨hx, hb, hml, hown, hts, hname, hK, hZ⟩ := C
  unfold xstep at h
  dsimp only at h
  simp only [xokI, Bool.and_eq_true, Bool.or_eq_true, Nat.blt_eq] at hok
  split at h
  · rename_i a r
    obtain ⟨ci, hci⟩ : ∃ ci, rn / 100 = ci := ⟨_, rfl⟩
    obtain ⟨fk, hfk⟩ : ∃ fk, rn % 100 = fk := ⟨_, rfl⟩
    simp only [hci, hfk] at h hok
    cases hg : (Nat.blt a (mN σ) && Nat.beq (mK σ a) (ci)) with
    | false => rw [hg] at h; cases h
    | true =>
      rw [hg] at h
      cases h
      simp only [Bool.and_eq_true, Nat.blt_eq, Nat.beq_eq] at hg
      obtain ⟨⟨hc, hf⟩, hl⟩ := hok
      obtain ⟨k0, k2, -, -, -, k6⟩ := x_kc _ hc
      have k1 := x_k2 k0
      intro arr H locs a1 a2 a4 a5 a6
      have hk := (kk arr H locs a1 a2 a4 a5 a6)
      have he : (xW cy (xad z sa) σ)[a]? = some ((xad z sa).1 a, .inr (ci, _)) := (xW_at cy (xad z sa) σ hg.1).trans (by rw [xC_obj hg.2 hc])
      have hv : ((List.range (xNF (ci))).map (fun k => xfv (xad z sa) (xT (ci) k) (mI σ a k) (mJ σ a k) (mR σ a k)))[fk]? = some (xfv (xad z sa) (xT (ci) (fk)) (mI σ a (fk)) (mJ σ a (fk)) (mR σ a (fk))) := by
        simp [hf]
      have hsame : ∀ x, s.fieldFound? ((xkC (ci)).2.1 (fk)).1 ((xkC (ci)).2.1 (fk)).2.1 ((xkC (ci)).2.1 (fk)).2.2.1 = some x → s.fieldFound? (xkC (ci)).1 ((xkC (ci)).2.1 (fk)).2.1 ((xkC (ci)).2.1 (fk)).2.2.1 = some x := by
        rw [(k6 _ (by rw [k2]; exact hf)).2]
        exact fun _ h => h
      rcases hl with hl | hl
      · exact va_get (Ts := xTs) hx hb hts (xTs_lays _ hc) hown hK a2 a he k1 (fk) (by rw [k2]; exact hf) (hts _ (xTs_of (w := .fieldLink (xR (xE k).2.2.2.2.1) ix (xkC ci).1 ((xkC ci).2.1 fk).2.1 ((xkC ci).2.1 fk).2.2.1) (by have hw := x_fl (xm3_in hl); simp only [xfw, hci, hfk] at hw; exact hw) rfl)) hsame hv (xl1 rfl (by decide) hlen hdg) hk
      · exact va_getN (Ts := xTs) (host := xHost (xE k).2.2.2.2.1) hx hb hts (xTs_lays _ hc) hown hK a2 a he k1 (fk) (by rw [k2]; exact hf) (va_Nw.use (w := .fieldLinkNest (xR (xE k).2.2.2.2.1) ix (xkC ci).1 ((xkC ci).2.1 fk).2.1 ((xkC ci).2.1 fk).2.2.1 (xHost (xE k).2.2.2.2.1)) rfl (by have hw := hZ.1 _ (xm3_in hl); simp only [xfn, hci, hfk] at hw; exact hw)) hsame hv (xl1 rfl (by decide) hlen hdg) hk
  · cases h
set_option maxHeartbeats 1000000 in
theorem xs_putfield (ix : Nat) : xOk (.putfield ix) := by
  intro p l e R s m args below meth c Q dd cy z sa n0 u0 k d pc len rn ri rl ls st σ pc' ls' st' σ' C hR hz hcap hdg hlen hok h kk
  obtain ⟨hx, hb, hml, hown, hts, hname, hK, hZ⟩ := C
  unfold xstep at h
  dsimp only at h
  simp only [xokI, Bool.and_eq_true, Bool.or_eq_true, Nat.blt_eq, Bool.not_eq_true', Nat.beq_eq] at hok
  split at h
  · rename_i v a r
    obtain ⟨ci, hci⟩ : ∃ ci, rn / 100 = ci := ⟨_, rfl⟩
    obtain ⟨fk, hfk⟩ : ∃ fk, rn % 100 = fk := ⟨_, rfl⟩
    simp only [hci, hfk] at h hok
    cases hg : (Nat.blt a (mN σ) && Nat.beq (mK σ a) (ci)) with
    | false => rw [hg] at h; cases h
    | true =>
      rw [hg] at h
      simp only [cond_true] at h
      split at h
      · rename_i σ1 hfp
        obtain ⟨rfl, rfl, rfl, rfl⟩ := xinj h
        simp only [Bool.and_eq_true, Nat.blt_eq, Nat.beq_eq] at hg
        obtain ⟨⟨hc, hf⟩, hl⟩ := hok
        obtain ⟨k0, k2, -, k4, k5, k6⟩ := x_kc _ hc
        have k1 := x_k2 k0
        have hkN : fk < (xkC (ci)).2.2 := by rw [k2]; exact hf
        obtain ⟨f1, f2, f3, f4⟩ := xfp_ok (cy := cy) (ad := xad z sa) hc hg.2 rfl hfp
        rw [← (k6 _ hkN).1] at hfp
        obtain ⟨g1, g2⟩ := xfp_ty (ad := xad z sa) hfp
        intro arr H locs a1 a2 a4 a5 a6
        have he : (xW cy (xad z sa) σ)[a]? = some ((xad z sa).1 a, .inr (ci, _)) := (xW_at cy (xad z sa) σ hg.1).trans (by rw [xC_obj hg.2 hc])
        have hsame : ∀ x, s.fieldFound? ((xkC (ci)).2.1 (fk)).1 ((xkC (ci)).2.1 (fk)).2.1 ((xkC (ci)).2.1 (fk)).2.2.1 = some x → s.fieldFound? (xkC (ci)).1 ((xkC (ci)).2.1 (fk)).2.1 ((xkC (ci)).2.1 (fk)).2.2.1 = some x := by
          rw [(k6 _ hkN).2]
          exact fun _ h => h
        have go : ∀ (H1 : Heap) (locs1 : List Loc), va_P dd vwC2 ((xW cy (xad z sa) σ).set a ((xad z sa).1 a, .inr (ci, ((List.range (xNF (ci))).map (fun j => xfv (xad z sa) (xT (ci) j) (mI σ a j) (mJ σ a j) (mR σ a j))).set (fk) (xv (xad z sa) v)))) H1 → va_D (fun q => z ≤ q) ((xW cy (xad z sa) σ).set a ((xad z sa).1 a, .inr (ci, ((List.range (xNF (ci))).map (fun j => xfv (xad z sa) (xT (ci) j) (mI σ a j) (mJ σ a j) (mR σ a j))).set (fk) (xv (xad z sa) v)))) → va_S (fun q => z ≤ q) s.heap H1 locs1 → W p l e R s m args below meth c H1 locs1 (mN σ - n0) (mU σ - u0) Q (F0 m (pc + 3) arr (r.map (xv (xad z sa)))) := by
          intro H1 locs1 b1 b2 b3
          rw [xW_set f1 f4 f3] at b1
          have hk := kk arr H1 locs1 a1 b1 (by rw [f1]; exact a4) (by rw [f2]; exact a5) b3
          rw [f1, f2] at hk
          exact hk
        rcases hl with ⟨hfin, hl⟩ | ⟨⟨⟨hfin, hini⟩, ho⟩, hl⟩
        · rcases hl with hl | hl
          · exact va_put (Ts := xTs) hx hb hts (xTs_lays _ hc) (xkT (ci)) k4 k5 hown hK a2 xW_D a6 a he k1 (fk) hkN (hts _ (xTs_of (w := .fieldLink (xR (xE k).2.2.2.2.1) ix (xkC ci).1 ((xkC ci).2.1 fk).2.1 ((xkC ci).2.1 fk).2.2.1) (by have hw := x_fl (xm3_in hl); simp only [xfw, hci, hfk] at hw; exact hw) rfl)) hsame hfin (k4 _ hkN) g1 g2 (by simp [hf]) (xl1 rfl (by decide) hlen hdg) go
          · exact va_putN (Ts := xTs) (host := xHost (xE k).2.2.2.2.1) hx hb hts (xTs_lays _ hc) (xkT (ci)) k4 k5 hown hK a2 xW_D a6 a he k1 (fk) hkN (va_Nw.use (w := .fieldLinkNest (xR (xE k).2.2.2.2.1) ix (xkC ci).1 ((xkC ci).2.1 fk).2.1 ((xkC ci).2.1 fk).2.2.1 (xHost (xE k).2.2.2.2.1)) rfl (by have hw := hZ.1 _ (xm3_in hl); simp only [xfn, hci, hfk] at hw; exact hw)) hsame hfin (k4 _ hkN) g1 g2 (by simp [hf]) (xl1 rfl (by decide) hlen hdg) go
        · have hR0 : (xkC (ci)).1 = xR (xE k).2.2.2.2.1 := by
            rw [← ho]
            rcases (show ci = 0 ∨ ci = 1 ∨ ci = 2 ∨ ci = 3 ∨ ci = 4 ∨ ci = 5 ∨ ci = 6 ∨ ci = 7 ∨ ci = 8 ∨ ci = 9 by omega) with q | q | q | q | q | q | q | q | q | q <;> rw [q] <;> rfl
          exact va_putF (Ts := xTs) hx hb hts (xTs_lays _ hc) (xkT (ci)) k4 k5 hown hK a2 xW_D a6 a he k1 (fk) hkN (hts _ (xTs_of (w := .fieldLink (xR (xE k).2.2.2.2.1) ix (xkC ci).1 ((xkC ci).2.1 fk).2.1 ((xkC ci).2.1 fk).2.2.1) (by have hw := x_fl (xm3_in hl); simp only [xfw, hci, hfk] at hw; exact hw) rfl)) hsame hfin (by rw [hname]; exact of_decide_eq_true hini) (by rw [(k6 _ hkN).2, hR0]) (k4 _ hkN) g1 g2 (by simp [hf]) (xl1 rfl (by decide) hlen hdg) go
      · cases h
  · cases h
set_option maxHeartbeats 1000000 in
theorem xs_iaload : xOk (.iaload) := by
  intro p l e R s m args below meth c Q dd cy z sa n0 u0 k d pc len rn ri rl ls st σ pc' ls' st' σ' C hR hz hcap hdg hlen hok h kk
  obtain ⟨hx, hb, hml, hown, hts, hname, hK, hZ⟩ := C
  unfold xstep at h
  dsimp only at h
  split at h
  · rename_i j a r
    cases hg : (Nat.blt a (mN σ) && Nat.beq (mK σ a) 11 && xinB j (mL σ a)) with
    | false => rw [hg] at h; cases h
    | true =>
      rw [hg] at h
      cases h
      simp only [Bool.and_eq_true, Nat.blt_eq, Nat.beq_eq] at hg
      intro arr H locs a1 a2 a4 a5 a6
      have hk := (kk arr H locs a1 a2 a4 a5 a6)
      exact va_iald hx hb hK a2 a 1 ((xW_at cy (xad z sa) σ hg.1.1).trans (by rw [xC_I hg.1.2])) rfl (xinB_in hg.2) (xl1 rfl (by decide) hlen hdg) hk
  · cases h
set_option maxHeartbeats 1000000 in
theorem xs_baload : xOk (.baload) := by
  intro p l e R s m args below meth c Q dd cy z sa n0 u0 k d pc len rn ri rl ls st σ pc' ls' st' σ' C hR hz hcap hdg hlen hok h kk
  obtain ⟨hx, hb, hml, hown, hts, hname, hK, hZ⟩ := C
  unfold xstep at h
  dsimp only at h
  split at h
  · rename_i j a r
    cases hg : (Nat.blt a (mN σ) && Nat.beq (mK σ a) 10 && xinB j (mL σ a)) with
    | false => rw [hg] at h; cases h
    | true =>
      rw [hg] at h
      cases h
      simp only [Bool.and_eq_true, Nat.blt_eq, Nat.beq_eq] at hg
      intro arr H locs a1 a2 a4 a5 a6
      have hk := (kk arr H locs a1 a2 a4 a5 a6)
      exact va_bald hx hb hK a2 a 0 ((xW_at cy (xad z sa) σ hg.1.1).trans (by rw [xC_B hg.1.2])) rfl (xinB_in hg.2) (xl1 rfl (by decide) hlen hdg) hk
  · cases h
set_option maxHeartbeats 1000000 in
theorem xs_laload : xOk (.laload) := by
  intro p l e R s m args below meth c Q dd cy z sa n0 u0 k d pc len rn ri rl ls st σ pc' ls' st' σ' C hR hz hcap hdg hlen hok h kk
  obtain ⟨hx, hb, hml, hown, hts, hname, hK, hZ⟩ := C
  unfold xstep at h
  dsimp only at h
  split at h
  · rename_i j a r
    cases hg : (Nat.blt a (mN σ) && Nat.beq (mK σ a) 12 && xinB j (mL σ a)) with
    | false => rw [hg] at h; cases h
    | true =>
      rw [hg] at h
      cases h
      simp only [Bool.and_eq_true, Nat.blt_eq, Nat.beq_eq] at hg
      intro arr H locs a1 a2 a4 a5 a6
      have hk := (kk arr H locs a1 a2 a4 a5 a6)
      exact va_lald hx hb hK a2 a 2 ((xW_at cy (xad z sa) σ hg.1.1).trans (by rw [xC_J hg.1.2])) rfl (xinB_in hg.2) (xl1 rfl (by decide) hlen hdg) hk
  · cases h
set_option maxHeartbeats 1000000 in
theorem xs_aaload : xOk (.aaload) := by
  intro p l e R s m args below meth c Q dd cy z sa n0 u0 k d pc len rn ri rl ls st σ pc' ls' st' σ' C hR hz hcap hdg hlen hok h kk
  obtain ⟨hx, hb, hml, hown, hts, hname, hK, hZ⟩ := C
  unfold xstep at h
  dsimp only at h
  split at h
  · rename_i j a r
    cases hg : (Nat.blt a (mN σ) && Nat.beq (mK σ a) 13 && xinB j (mL σ a)) with
    | false => rw [hg] at h; cases h
    | true =>
      rw [hg] at h
      cases h
      simp only [Bool.and_eq_true, Nat.blt_eq, Nat.beq_eq] at hg
      intro arr H locs a1 a2 a4 a5 a6
      have hk := (kk arr H locs a1 a2 a4 a5 a6)
      simp only [List.map_cons, xv_rv] at hk
      exact va_aldq hx hb hK a2 a 3 ((xW_at cy (xad z sa) σ hg.1.1).trans (by rw [xC_R hg.1.2])) rfl (xinB_in hg.2) (xl1 rfl (by decide) hlen hdg) hk
  · cases h
set_option maxHeartbeats 1000000 in
theorem xs_iastore : xOk (.iastore) := by
  intro p l e R s m args below meth c Q dd cy z sa n0 u0 k d pc len rn ri rl ls st σ pc' ls' st' σ' C hR hz hcap hdg hlen hok h kk
  obtain ⟨hx, hb, hml, hown, hts, hname, hK, hZ⟩ := C
  unfold xstep at h
  dsimp only at h
  split at h
  · rename_i x j a r
    cases hg : (Nat.blt a (mN σ) && Nat.beq (mK σ a) 11 && xinB j (mL σ a)) with
    | false => rw [hg] at h; cases h
    | true =>
      rw [hg] at h
      obtain ⟨rfl, rfl, rfl, rfl⟩ := xinj h
      simp only [Bool.and_eq_true, Nat.blt_eq, Nat.beq_eq] at hg
      intro arr H locs a1 a2 a4 a5 a6
      have hset : (xW cy (xad z sa) σ).set a ((xad z sa).1 a, Sum.inl (cy 11, mL σ a, Sum.inl (upd (mI σ a) j.toNatClampNeg x))) = xW cy (xad z sa) (sI σ (up2 (mI σ) a j.toNatClampNeg x)) := xW_set rfl ((xC_I (σ := sI σ (up2 (mI σ) a j.toNatClampNeg x)) hg.1.2).trans (by
          show Sum.inl (cy 11, mL σ a, Sum.inl (up2 (mI σ) a j.toNatClampNeg x a)) = _
          rw [up2_self]
          rfl)) (fun b hb => by
          show xcell cy (xad z sa) (mK σ b) (mL σ b) (up2 (mI σ) a j.toNatClampNeg x b) (mJ σ b) (mR σ b) = _
          rw [up2_ne _ _ _ hb]
          rfl)
      refine va_iast hx hb hK a2 xW_D a6 a 1 ((xW_at cy (xad z sa) σ hg.1.1).trans (by rw [xC_I hg.1.2])) rfl (xinB_in hg.2) (xl1 rfl (by decide) hlen hdg) (fun H1 locs1 b1 b2 b3 => ?_)
      rw [hset] at b1
      exact kk arr H1 locs1 a1 b1 a4 a5 b3
  · cases h
set_option maxHeartbeats 1000000 in
theorem xs_bastore : xOk (.bastore) := by
  intro p l e R s m args below meth c Q dd cy z sa n0 u0 k d pc len rn ri rl ls st σ pc' ls' st' σ' C hR hz hcap hdg hlen hok h kk
  obtain ⟨hx, hb, hml, hown, hts, hname, hK, hZ⟩ := C
  unfold xstep at h
  dsimp only at h
  split at h
  · rename_i x j a r
    cases hg : (Nat.blt a (mN σ) && Nat.beq (mK σ a) 10 && xinB j (mL σ a)) with
    | false => rw [hg] at h; cases h
    | true =>
      rw [hg] at h
      obtain ⟨rfl, rfl, rfl, rfl⟩ := xinj h
      simp only [Bool.and_eq_true, Nat.blt_eq, Nat.beq_eq] at hg
      intro arr H locs a1 a2 a4 a5 a6
      have hset : (xW cy (xad z sa) σ).set a ((xad z sa).1 a, Sum.inl (cy 10, mL σ a, Sum.inl (upd (mI σ a) j.toNatClampNeg (vp_nar .byte x)))) = xW cy (xad z sa) (sI σ (up2 (mI σ) a j.toNatClampNeg (x.toInt8.toInt32))) := xW_set rfl ((xC_B (σ := sI σ (up2 (mI σ) a j.toNatClampNeg (x.toInt8.toInt32))) hg.1.2).trans (by
          show Sum.inl (cy 10, mL σ a, Sum.inl (up2 (mI σ) a j.toNatClampNeg (x.toInt8.toInt32) a)) = _
          rw [up2_self]
          rfl)) (fun b hb => by
          show xcell cy (xad z sa) (mK σ b) (mL σ b) (up2 (mI σ) a j.toNatClampNeg (x.toInt8.toInt32) b) (mJ σ b) (mR σ b) = _
          rw [up2_ne _ _ _ hb]
          rfl)
      refine va_bast hx hb hK a2 xW_D a6 a 0 ((xW_at cy (xad z sa) σ hg.1.1).trans (by rw [xC_B hg.1.2])) rfl (xinB_in hg.2) (xl1 rfl (by decide) hlen hdg) (fun H1 locs1 b1 b2 b3 => ?_)
      rw [hset] at b1
      exact kk arr H1 locs1 a1 b1 a4 a5 b3
  · cases h
set_option maxHeartbeats 1000000 in
theorem xs_lastore : xOk (.lastore) := by
  intro p l e R s m args below meth c Q dd cy z sa n0 u0 k d pc len rn ri rl ls st σ pc' ls' st' σ' C hR hz hcap hdg hlen hok h kk
  obtain ⟨hx, hb, hml, hown, hts, hname, hK, hZ⟩ := C
  unfold xstep at h
  dsimp only at h
  split at h
  · rename_i x j a r
    cases hg : (Nat.blt a (mN σ) && Nat.beq (mK σ a) 12 && xinB j (mL σ a)) with
    | false => rw [hg] at h; cases h
    | true =>
      rw [hg] at h
      obtain ⟨rfl, rfl, rfl, rfl⟩ := xinj h
      simp only [Bool.and_eq_true, Nat.blt_eq, Nat.beq_eq] at hg
      intro arr H locs a1 a2 a4 a5 a6
      have hset : (xW cy (xad z sa) σ).set a ((xad z sa).1 a, Sum.inl (cy 12, mL σ a, Sum.inr (Sum.inl (vp_updL (mJ σ a) j.toNatClampNeg x)))) = xW cy (xad z sa) (sJ σ (up2 (mJ σ) a j.toNatClampNeg x)) := xW_set rfl ((xC_J (σ := sJ σ (up2 (mJ σ) a j.toNatClampNeg x)) hg.1.2).trans (by
          show Sum.inl (cy 12, mL σ a, Sum.inr (Sum.inl (up2 (mJ σ) a j.toNatClampNeg x a))) = _
          rw [up2_self]
          rfl)) (fun b hb => by
          show xcell cy (xad z sa) (mK σ b) (mL σ b) (mI σ b) (up2 (mJ σ) a j.toNatClampNeg x b) (mR σ b) = _
          rw [up2_ne _ _ _ hb]
          rfl)
      refine va_last hx hb hK a2 xW_D a6 a 2 ((xW_at cy (xad z sa) σ hg.1.1).trans (by rw [xC_J hg.1.2])) rfl (xinB_in hg.2) (xl1 rfl (by decide) hlen hdg) (fun H1 locs1 b1 b2 b3 => ?_)
      rw [hset] at b1
      exact kk arr H1 locs1 a1 b1 a4 a5 b3
  · cases h
set_option maxHeartbeats 1000000 in
theorem xs_aastore : xOk (.aastore) := by
  intro p l e R s m args below meth c Q dd cy z sa n0 u0 k d pc len rn ri rl ls st σ pc' ls' st' σ' C hR hz hcap hdg hlen hok h kk
  obtain ⟨hx, hb, hml, hown, hts, hname, hK, hZ⟩ := C
  unfold xstep at h
  dsimp only at h
  split at h
  · rename_i x j a r
    cases hg : (Nat.blt a (mN σ) && Nat.beq (mK σ a) 13 && xinB j (mL σ a) && Nat.blt x (mN σ) && Nat.beq (mK σ x) 4) with
    | false => rw [hg] at h; cases h
    | true =>
      rw [hg] at h
      cases h
      simp only [Bool.and_eq_true, Nat.blt_eq, Nat.beq_eq] at hg
      obtain ⟨⟨⟨⟨g1, g2⟩, g3⟩, g4⟩, g5⟩ := hg
      intro arr H locs a1 a2 a4 a5 a6
      have hset : (xW cy (xad z sa) σ).set a ((xad z sa).1 a, Sum.inl (cy 13, mL σ a, Sum.inr (Sum.inr (Sum.inr (Sum.inr (va_up (fun i => (mR σ a i).map (xad z sa).1) j.toNatClampNeg (some ((xad z sa).1 x)))))))) = xW cy (xad z sa) (sR σ (up2 (mR σ) a j.toNatClampNeg (some x))) := xW_set rfl ((xC_R (σ := sR σ (up2 (mR σ) a j.toNatClampNeg (some x))) g2).trans (by
          show Sum.inl (cy 13, mL σ a, Sum.inr (Sum.inr (Sum.inr (Sum.inr (fun i => (up2 (mR σ) a j.toNatClampNeg (some x) a i).map (xad z sa).1))))) = _
          rw [up2_self]
          have hfun : (fun i => (va_up (mR σ a) j.toNatClampNeg (some x) i).map (xad z sa).1) = va_up (fun i => (mR σ a i).map (xad z sa).1) j.toNatClampNeg (some ((xad z sa).1 x)) := by
            funext i
            by_cases hi : i = j.toNatClampNeg
            · subst hi
              rw [va_up_self, va_up_self]
              rfl
            · rw [va_up_ne _ _ hi, va_up_ne _ _ hi]
          rw [hfun])) (fun b hb => by
          show xcell cy (xad z sa) (mK σ b) (mL σ b) (mI σ b) (mJ σ b) (up2 (mR σ) a j.toNatClampNeg (some x) b) = _
          rw [up2_ne _ _ _ hb]
          rfl)
      refine va_astq (r := xkC 4) hx hb hK a2 xW_D a6 a 3 x 4 ((xW_at cy (xad z sa) σ g1).trans (by rw [xC_R g2])) rfl ((xW_at cy (xad z sa) σ g4).trans (by rw [xC_obj g5 (by decide)])) rfl (xinB_in g3) (xl1 rfl (by decide) hlen hdg) (fun H1 locs1 b1 b2 b3 => ?_)
      rw [hset] at b1
      exact kk arr H1 locs1 a1 b1 a4 a5 b3
  · cases h
set_option maxHeartbeats 1000000 in
theorem xs_new (ix : Nat) : xOk (.new ix) := by
  intro p l e R s m args below meth c Q dd cy z sa n0 u0 k d pc len rn ri rl ls st σ pc' ls' st' σ' C hR hz hcap hdg hlen hok h kk
  obtain ⟨hx, hb, hml, hown, hts, hname, hK, hZ⟩ := C
  unfold xstep at h
  dsimp only at h
  simp only [xokI, Bool.and_eq_true, Nat.blt_eq] at hok
  · cases h
    obtain ⟨k0, k2, -, k4, -, k6⟩ := x_kc _ hok.1
    have k1 := x_k2 k0
    have hR0 : (xkC rn).1 = xR rn := by
      rcases (show rn = 0 ∨ rn = 1 ∨ rn = 2 ∨ rn = 3 ∨ rn = 4 ∨ rn = 5 ∨ rn = 6 ∨ rn = 7 ∨ rn = 8 ∨ rn = 9 by omega) with q | q | q | q | q | q | q | q | q | q <;> rw [q] <;> rfl
    have hN0 : mN (sNew σ rn 0 (xNF rn)) = mN σ + 1 := rfl
    have hU0 : mU (sNew σ rn 0 (xNF rn)) = mU σ + xNF rn := rfl
    rw [hN0, hU0] at hcap
    intro arr H locs a1 a2 a4 a5 a6
    refine va_new (Ts := xTs) (fs := (List.range (xNF rn)).map (fun k => xfv (xad z sa) (xT rn k) 0 0 none)) hx hb hts (xTs_lays _ hok.1) (xkT rn) k4 hown (hts _ (xTs_of (w := .classLink (xR (xE k).2.2.2.2.1) _ (xkC rn).1) (by rw [hR0]; exact x_ck (xm3_in hok.2)) rfl)) (hts _ (xTs_of (w := .instantiable (xkC rn).1 (xkC rn).2.2) (by rw [hR0, k2]; exact (x_ins rn hok.1).1) rfl)) (hts _ (xTs_of (w := .initialized (xkC rn).1) (by rw [hR0]; exact (x_ins rn hok.1).2) rfl)) hK a2 xW_D a6 (fun q hq => by omega) k1 (fun j hj => ?_) (by omega) (by rw [k2]; omega) (xl1 rfl (by decide) hlen hdg) (fun q H1 b1 b2 b3 => ?_)
    · have h6 := (k6 j hj).1
      rw [k2] at hj
      rw [show vp_V ((List.range (xNF rn)).map (fun k => xfv (xad z sa) (xT rn k) 0 0 none)) j = xfv (xad z sa) (xT rn j) 0 0 none by simp [vp_V, List.getD_eq_getElem?_getD, hj], ← h6]
      have h7 := x_tyk rn hok.1 j hj
      cases hty : xkT rn j <;> simp [xtc, xfv, xfg, xrv, xv, defaultValue, hty] at h7 ⊢
    · refine x_fresh (g := fun q => F0 m (pc + 3) arr (.ref q :: st.map (xv (xad z sa)))) hz a4 rfl b1 b2 (fun hq => ?_)
      subst hq
      rw [xW_new (c := rn) (n := 0) (u := xNF rn) rfl (by rw [xcell, if_pos hok.1])] at b1
      have hk := kk arr H1 locs a1 b1 (by rw [hN0]; omega) (by rw [hU0]; omega) b3
      rw [hN0, hU0, show mN σ + 1 - n0 = mN σ - n0 + 1 by omega, show mU σ + xNF rn - u0 = mU σ - u0 + xNF rn by omega] at hk
      rw [k2]
      exact hk
set_option maxHeartbeats 1000000 in
theorem xs_newarray (at0 : ArrayType) : xOk (.newarray at0) := by
  intro p l e R s m args below meth c Q dd cy z sa n0 u0 k d pc len rn ri rl ls st σ pc' ls' st' σ' C hR hz hcap hdg hlen hok h kk
  obtain ⟨hx, hb, hml, hown, hts, hname, hK, hZ⟩ := C
  unfold xstep at h
  dsimp only at h
  split at h
  · rename_i n r
    cases hg : xinB n 2000 with
    | false => rw [hg] at h; cases h
    | true =>
      rw [hg] at h
      cases h
      have hin := xinB_in hg
      have hN0 : mN (sNew σ rn n.toNatClampNeg n.toNatClampNeg) = mN σ + 1 := rfl
      have hU0 : mU (sNew σ rn n.toNatClampNeg n.toNatClampNeg) = mU σ + n.toNatClampNeg := rfl
      rw [hN0, hU0] at hcap
      have hlt : n.toNatClampNeg < 2000 := Nat.not_le.mp (fun q => hin (Or.inr q))
      intro arr H locs a1 a2 a4 a5 a6
      have main : ∀ (ty : FieldType) (a0 : vp_A) (t0 : Nat), newarray.typeOf at0 = ty → (Cond.arrayClass (newarray.typeOf at0)).before args s = true → (∀ cA : ClassId, vp_cell cA a0 = arrV cA n.toNatClampNeg (fun _ => defaultValue ty)) → n.toNatClampNeg * componentBytes ty ≤ 536870912 → (xty cy)[t0]? = some (cy rn, ty) → (∀ U : State, ∀ cA, va_RA U cA ty ↔ U.vm.findClass ("[" ++ ty.toString) = some cA) → (∀ cA, cA = cy rn → Sum.inl (cA, a0) = xcell cy (xad z sa) rn n.toNatClampNeg (fun _ => 0) (fun _ => 0) (fun _ => none)) → W p l e R s m args below meth c H locs (mN σ - n0) (mU σ - u0) Q (F0 m pc arr (.int n :: r.map (xv (xad z sa)))) := by
        intro ty a0 t0 h1 h2 h3 h4 h5 h6 h7
        refine va_newa (a0 := a0) hx hb h2 h1 hK a2 xW_D a6 (fun q hq => by omega) h3 (fun q => hin (Or.inl q)) rfl h4 (by omega) (by omega) (xl1 rfl (by decide) hlen hdg) (fun q cA H1 bK b1 b2 b3 => ?_)
        refine x_fresh (g := fun q => F0 m (pc + 2) arr (.ref q :: r.map (xv (xad z sa)))) hz a4 rfl b1 b2 (fun hq => ?_)
        subst hq
        have hcA : cA = cy rn := by
          have e1 := (h6 s cA).mp (bK.2 4 (cA, ty) rfl).2
          have e2 := (h6 s (cy rn)).mp (hK.2 t0 _ h5).2
          exact Option.some.inj (e1.symm.trans e2)
        rw [xW_new (c := rn) (n := n.toNatClampNeg) (u := n.toNatClampNeg) rfl (h7 cA hcA)] at b1
        have hk := kk arr H1 locs a1 b1 (by rw [hN0]; omega) (by rw [hU0]; omega) b3
        rw [hN0, hU0, show mN σ + 1 - n0 = mN σ - n0 + 1 by omega, show mU σ + n.toNatClampNeg - u0 = mU σ - u0 + n.toNatClampNeg by omega] at hk
        exact hk
      cases at0 <;> simp only [xokI, Nat.beq_eq] at hok <;> first | (cases hok; done) | skip
      · subst hok
        exact main .byte (n.toNatClampNeg, .inl (fun _ => 0)) 0 rfl (hts _ (xTs_of x_arrB rfl)) (fun _ => rfl) (by simp [componentBytes]; omega) rfl (fun _ _ => Iff.rfl) (fun cA hc => by subst hc; rfl)
      · subst hok
        exact main .int (n.toNatClampNeg, .inl (fun _ => 0)) 1 rfl (hts _ (xTs_of x_arrI rfl)) (fun _ => rfl) (by simp [componentBytes]; omega) rfl (fun _ _ => Iff.rfl) (fun cA hc => by subst hc; rfl)
      · subst hok
        exact main .long (n.toNatClampNeg, .inr (.inl (fun _ => 0))) 2 rfl (hts _ (xTs_of x_arrJ rfl)) (fun _ => rfl) (by simp [componentBytes]; omega) rfl (fun _ _ => Iff.rfl) (fun cA hc => by subst hc; rfl)
  · cases h
set_option maxHeartbeats 1000000 in
theorem xs_anewarray (ix : Nat) : xOk (.anewarray ix) := by
  intro p l e R s m args below meth c Q dd cy z sa n0 u0 k d pc len rn ri rl ls st σ pc' ls' st' σ' C hR hz hcap hdg hlen hok h kk
  obtain ⟨hx, hb, hml, hown, hts, hname, hK, hZ⟩ := C
  unfold xstep at h
  dsimp only at h
  simp only [xokI, Bool.and_eq_true, Nat.beq_eq] at hok
  split at h
  · rename_i n r
    cases hg : xinB n 2000 with
    | false => rw [hg] at h; cases h
    | true =>
      rw [hg] at h
      cases h
      have hin := xinB_in hg
      have hN0 : mN (sNew σ 13 n.toNatClampNeg n.toNatClampNeg) = mN σ + 1 := rfl
      have hU0 : mU (sNew σ 13 n.toNatClampNeg n.toNatClampNeg) = mU σ + n.toNatClampNeg := rfl
      rw [hN0, hU0] at hcap
      have hlt : n.toNatClampNeg < 2000 := Nat.not_le.mp (fun q => hin (Or.inr q))
      intro arr H locs a1 a2 a4 a5 a6
      refine va_newq (C := "LastAsked$State") hx hb hown (hts _ (xTs_of (x_ck (xm3_in hok.2)) rfl)) hZ.2.2.1 hK a2 xW_D a6 (fun q hq => by omega) (fun q => hin (Or.inl q)) rfl (by omega) (by omega) (by omega) (xl1 rfl (by decide) hlen hdg) (fun q cA H1 bK b1 b2 b3 => ?_)
      refine x_fresh (g := fun q => F0 m (pc + 3) arr (.ref q :: r.map (xv (xad z sa)))) hz a4 rfl b1 b2 (fun hq => ?_)
      subst hq
      have hcA : cA = cy 13 := by
        obtain ⟨_, _, _, _, _, e1⟩ := (bK.2 4 (cA, .object "LastAsked$State") rfl).2
        obtain ⟨_, _, _, _, _, e2⟩ := (hK.2 3 (cy 13, .object "LastAsked$State") rfl).2
        exact Option.some.inj (e1.symm.trans e2)
      subst hcA
      rw [xW_new (cy := cy) (ad := xad z sa) (σ := σ) (c := 13) (n := n.toNatClampNeg) (u := n.toNatClampNeg) (e := Sum.inl (cy 13, n.toNatClampNeg, Sum.inr (Sum.inr (Sum.inr (Sum.inr (fun _ => none)))))) rfl rfl] at b1
      have hk := kk arr H1 locs a1 b1 (by rw [hN0]; omega) (by rw [hU0]; omega) b3
      rw [hN0, hU0, show mN σ + 1 - n0 = mN σ - n0 + 1 by omega, show mU σ + n.toNatClampNeg - u0 = mU σ - u0 + n.toNatClampNeg by omega] at hk
      exact hk
  · cases h
set_option maxHeartbeats 1000000 in
theorem xs_invokespecial (ix : Nat) : xOk (.invokespecial ix) := by
  intro p l e R s m args below meth c Q dd cy z sa n0 u0 k d pc len rn ri rl ls st σ pc' ls' st' σ' C hR hz hcap hdg hlen hok h kk
  obtain ⟨hx, hb, hml, hown, hts, hname, hK, hZ⟩ := C
  unfold xstep at h
  dsimp only at h
  cases hg : (Nat.beq rn 9000 && Nat.blt 0 d) with
  | false => rw [hg] at h; cases h
  | true =>
    rw [hg] at h
    simp only [cond_true] at h
    simp only [Bool.and_eq_true, Nat.blt_eq] at hg
    rw [xokI, hg.1] at hok
    split at h
    · rename_i a r
      cases hr : xsr r with
      | false => rw [hr] at h; cases h
      | true =>
        rw [hr] at h
        obtain ⟨rfl, rfl, rfl, rfl⟩ := xinj h
        have hr2 : ((r.map fun v => v.category).sum) ≤ 8 := Nat.le_of_ble_eq_true hr
        intro arr H locs a1 a2 a4 a5 a6
        refine W.objInit hx hb hown (hts _ (xTs_of (xOL_in (xm2_in hok)) rfl)) (hts _ (xTs_of x_obj1 rfl)) (hts _ (xTs_of x_obj2 rfl)) rfl a1.2.1 rfl (xl1 rfl (by decide) hlen hdg) (by omega) ?_ (kk arr H locs a1 a2 a4 a5 a6)
        show 2 * 0 + ((r.map (xv (xad z sa))).map fun v => v.category).sum + 12 ≤ R.locals
        rw [xv_cats]
        omega
    · cases h
set_option maxHeartbeats 1000000 in
theorem xs_invokestatic (ix : Nat) : xOk (.invokestatic ix) := by
  intro p l e R s m args below meth c Q dd cy z sa n0 u0 k d pc len rn ri rl ls st σ pc' ls' st' σ' C hR hz hcap hdg hlen hok h kk
  obtain ⟨hx, hb, hml, hown, hts, hname, hK, hZ⟩ := C
  unfold xstep at h
  dsimp only at h
  cases hg : Nat.blt 0 d with
  | false => rw [hg] at h; cases h
  | true =>
    rw [hg] at h
    simp only [cond_true] at h
    rw [Nat.blt_eq] at hg
    cases h1 : Nat.beq rn 9001 with
    | true =>
      rw [h1] at h
      simp only [cond_true] at h
      rw [xokI, h1] at hok
      split at h
      · rename_i y x r
        cases hr : xsr r with
        | false => rw [hr] at h; cases h
        | true =>
          rw [hr] at h
          obtain ⟨rfl, rfl, rfl, rfl⟩ := xinj h
          have hr2 : ((r.map fun v => v.category).sum) ≤ 8 := Nat.le_of_ble_eq_true hr
          intro arr H locs a1 a2 a4 a5 a6
          exact va_mmin hx hb a1.2.1.symm hown (hts _ (xTs_of (xMI_in (xm2_in hok)) rfl)) (hts _ (xTs_of x_min1 rfl)) (hts _ (xTs_of x_math rfl)) (hts _ (xTs_of x_min2 rfl)) (by omega) (by rw [xv_cats]; omega) hcap.1 hcap.2 (xl1 rfl (by decide) hlen hdg) (kk arr H locs a1 a2 a4 a5 a6)
      · cases h
    | false =>
      rw [h1] at h
      simp only [cond_false] at h
      cases h2 : Nat.beq rn 9002 with
      | true =>
        rw [h2] at h
        simp only [cond_true] at h
        rw [xokI, h1, h2] at hok
        split at h
        · rename_i y x r
          cases hr : xsr r with
          | false => rw [hr] at h; cases h
          | true =>
            rw [hr] at h
            obtain ⟨rfl, rfl, rfl, rfl⟩ := xinj h
            have hr2 : ((r.map fun v => v.category).sum) ≤ 8 := Nat.le_of_ble_eq_true hr
            intro arr H locs a1 a2 a4 a5 a6
            exact va_mmax hx hb a1.2.1.symm hown (hts _ (xTs_of (xMA_in (xm2_in hok)) rfl)) (hts _ (xTs_of x_max1 rfl)) (hts _ (xTs_of x_math rfl)) (hts _ (xTs_of x_max2 rfl)) (by omega) (by rw [xv_cats]; omega) hcap.1 hcap.2 (xl1 rfl (by decide) hlen hdg) (kk arr H locs a1 a2 a4 a5 a6)
        · cases h
      | false =>
        rw [h2] at h
        simp only [cond_false] at h
        cases h3 : Nat.beq rn 9003 with
        | false => rw [h3] at h; cases h
        | true =>
          rw [h3] at h
          simp only [cond_true] at h
          rw [xokI, h1, h2, h3] at hok
          split at h
          · rename_i n dp a sp b r
            cases hc : (xsr r && Nat.blt a (mN σ) && Nat.beq (mK σ a) 11 && Nat.blt b (mN σ) && Nat.beq (mK σ b) 11 && !(decide (sp < 0)) && !(decide (dp < 0)) && !(decide (n < 0)) && Nat.ble (sp.toNatClampNeg + n.toNatClampNeg) (mL σ b) && Nat.ble (dp.toNatClampNeg + n.toNatClampNeg) (mL σ a)) with
            | false => rw [hc] at h; cases h
            | true =>
              rw [hc] at h
              obtain ⟨rfl, rfl, rfl, rfl⟩ := xinj h
              simp only [Bool.and_eq_true, Nat.blt_eq, Nat.beq_eq, Bool.not_eq_true', decide_eq_false_iff_not, Nat.ble_eq] at hc
              obtain ⟨⟨⟨⟨⟨⟨⟨⟨⟨c0, c1⟩, c2⟩, c3⟩, c4⟩, c5⟩, c6⟩, c7⟩, c8⟩, c9⟩ := hc
              have hr2 : ((r.map fun v => v.category).sum) ≤ 8 := Nat.le_of_ble_eq_true c0
              intro arr H locs a1 a2 a4 a5 a6
              have hset : (xW cy (xad z sa) σ).set a ((xad z sa).1 a, Sum.inl (cy 11, mL σ a, Sum.inl (va_cpy (mI σ b) (mI σ a) sp.toNatClampNeg dp.toNatClampNeg n.toNatClampNeg))) = xW cy (xad z sa) (sI σ (va_up (mI σ) a (va_cpy (mI σ b) (mI σ a) sp.toNatClampNeg dp.toNatClampNeg n.toNatClampNeg))) := xW_set rfl ((xC_I (σ := sI σ (va_up (mI σ) a (va_cpy (mI σ b) (mI σ a) sp.toNatClampNeg dp.toNatClampNeg n.toNatClampNeg))) c2).trans (by
                  show Sum.inl (cy 11, mL σ a, Sum.inl (va_up (mI σ) a (va_cpy (mI σ b) (mI σ a) sp.toNatClampNeg dp.toNatClampNeg n.toNatClampNeg) a)) = _
                  rw [va_up_self])) (fun b' hb' => by
                  show xcell cy (xad z sa) (mK σ b') (mL σ b') (va_up (mI σ) a (va_cpy (mI σ b) (mI σ a) sp.toNatClampNeg dp.toNatClampNeg n.toNatClampNeg) b') (mJ σ b') (mR σ b') = _
                  rw [va_up_ne _ _ hb']
                  rfl)
              refine va_copyi hx hb a1.2.1.symm hown (hts _ (xTs_of (xAL_in (xm2_in hok)) rfl)) (hts _ (xTs_of x_ac1 rfl)) (hts _ (xTs_of x_ac2 rfl)) (hts _ (xTs_of x_ac3 rfl)) hK a2 xW_D a6 b a 1 1 ((xW_at cy (xad z sa) σ c3).trans (by rw [xC_I c4])) ((xW_at cy (xad z sa) σ c1).trans (by rw [xC_I c2])) rfl rfl rfl c5 c6 c7 c8 c9 (fun i _ => rfl) (by omega) (by rw [xv_cats, show nativeFrameWords "java/lang/System" "arraycopy" 5 = 7 by decide +kernel]; omega) (xl1 rfl (by decide) hlen hdg) (fun H1 locs1 b1 b2 b3 => ?_)
              rw [hset] at b1
              exact kk arr H1 locs1 a1 b1 a4 a5 b3
          · cases h
end XS
theorem x_step : ∀ i : Instr, xOk i := by
  intro i
  cases i
  case iconst n => exact xs_iconst n
  case bipush n => exact xs_bipush n
  case sipush n => exact xs_sipush n
  case lconst n => exact xs_lconst n
  case ldc ix => exact xs_ldc ix
  case ldc_w ix => exact xs_ldc_w ix
  case ldc2_w ix => exact xs_ldc2_w ix
  case iload_n n => exact xs_iload_n n
  case iload n => exact xs_iload n
  case lload_n n => exact xs_lload_n n
  case lload n => exact xs_lload n
  case aload_n n => exact xs_aload_n n
  case aload n => exact xs_aload n
  case istore_n n => exact xs_istore_n n
  case istore n => exact xs_istore n
  case lstore_n n => exact xs_lstore_n n
  case lstore n => exact xs_lstore n
  case astore_n n => exact xs_astore_n n
  case iinc n w => exact xs_iinc n w
  case iadd  => exact xs_iadd 
  case isub  => exact xs_isub 
  case imul  => exact xs_imul 
  case iand  => exact xs_iand 
  case ior  => exact xs_ior 
  case ixor  => exact xs_ixor 
  case ishl  => exact xs_ishl 
  case ishr  => exact xs_ishr 
  case iushr  => exact xs_iushr 
  case idiv  => exact xs_idiv 
  case irem  => exact xs_irem 
  case ineg  => exact xs_ineg 
  case ladd  => exact xs_ladd 
  case lmul  => exact xs_lmul 
  case lor  => exact xs_lor 
  case ldiv  => exact xs_ldiv 
  case lrem  => exact xs_lrem 
  case lshl  => exact xs_lshl 
  case lcmp  => exact xs_lcmp 
  case i2l  => exact xs_i2l 
  case l2i  => exact xs_l2i 
  case i2b  => exact xs_i2b 
  case dup  => exact xs_dup 
  case pop  => exact xs_pop 
  case dup2  => exact xs_dup2 
  case ifCond cnd off => exact xs_ifCond cnd off
  case if_icmp cnd off => exact xs_if_icmp cnd off
  case ifnull off => exact xs_ifnull off
  case ifnonnull off => exact xs_ifnonnull off
  case goto off => exact xs_goto off
  case tableswitch df lo hi offs => exact xs_tableswitch df lo hi offs
  case getfield ix => exact xs_getfield ix
  case putfield ix => exact xs_putfield ix
  case iaload  => exact xs_iaload 
  case baload  => exact xs_baload 
  case laload  => exact xs_laload 
  case aaload  => exact xs_aaload 
  case iastore  => exact xs_iastore 
  case bastore  => exact xs_bastore 
  case lastore  => exact xs_lastore 
  case aastore  => exact xs_aastore 
  case new ix => exact xs_new ix
  case newarray at0 => exact xs_newarray at0
  case anewarray ix => exact xs_anewarray ix
  case invokespecial ix => exact xs_invokespecial ix
  case invokestatic ix => exact xs_invokestatic ix
  all_goals (intro p l e R s m args below meth c Q dd cy z sa n0 u0 k d pc len rn ri rl ls st σ pc' ls' st' σ' C hR hz hcap hdg hlen hok h kk; unfold xstep at h; cases h)
