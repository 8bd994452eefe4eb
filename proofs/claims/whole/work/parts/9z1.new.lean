/-! the law: its start and end as the kit's skeleton has them; new objects -/
def R_law : String := "LastAskedLaw"
def lw_P (b : Addr) (xs : List Int32) (args : Array Value) (s : State) : Prop := args = #[.ref b] ∧ s.IntsAt b xs ∧ xs.length ≤ 3072 ∧ (Jvm.Cond.and given_1 narrow_1).before args s = true
def lw_Q (_ : Array Value) (s : State) (o : Outcome) (t : State) : Prop := o = .returned (some (.int 1)) ∧ Framed s o t [] 601024 7293034
def lw_Z (below : List Frame) (a : Array Value) (s : State) : State → Prop := fun t => ∃ o, t.status = .running ∧ Ended t below o ∧ lw_Q a s o t
/-- the law's own end, with 1 on the stack, nothing written that was there before, its room as the claim has it -/
theorem lw_ret {p : Program} {l : Launch} {e : Env} {s : State} {m : MethodId} {below : List Frame} {meth : Method} {c : Code} {b : Nat} (hx : p.tables.exec = Jvm.exec) (hb : c.code = code) (hr : meth.sig.returnType = ret) (hlocks : meth.locks = false) {pc : Nat} {H : Heap} {ls : Array Slot} (hdg : decode code pc = .ok (.ireturn, 1)) : W p l e room_1 s m #[Value.ref b] below meth c H [] 601024 7293034 (lw_Z below #[Value.ref b] s) (F0 m pc ls [.int 1]) := by
  intro T hT X
  obtain ⟨fs, hret, hrun, hended, hW, hframe⟩ := X.leave (v := some (.int 1)) (hlocks := hlocks) (fun h => by rw [hr] at h; cases h)
  have hmeth' : T.vm.method? m = some meth := X.method'
  refine ⟨T.setFrames fs, ?_, .returned (some (.int 1)), hrun, hended, rfl, ⟨_, rfl⟩, hW, hframe⟩
  jvm_step X.here [X.here.top, hx, hb, hdg, hmeth', hr, ret, narrow_b1]
  (try refine ⟨rfl, ?_⟩); (try refine ⟨rfl, ?_⟩)
  first | (intro acts; rw [hret _ acts rfl rfl rfl]) | rw [hret _ _ rfl rfl rfl]
  exact Steps.refl _
/-- what holds at the law's entry: the machine, the code, the tables' words (any of lw_tbl by 'hts w (by decide +kernel)'), the script of L ints xs at the cell b, what the Statement gives of the start (any of its parts by flat_of_before) -/
def lw_At (p : Program) (s : State) (m : MethodId) (meth : Method) (c : Code) (b L : Nat) (xs : Nat → Int32) : Prop :=
  p.tables.exec = Jvm.exec ∧ c.code = code ∧ meth.sig.returnType = ret ∧ c.maxLocals = 7 ∧ s.vm.findClass R_law = some m.cls ∧ (∀ w ∈ lw_tbl, w.before #[Value.ref b] s = true) ∧ va_X b L xs s s.heap ∧ b < s.heap.size ∧ meth.locks = false ∧ (Jvm.Cond.and given_1 narrow_1).before #[Value.ref b] s = true
set_option maxRecDepth 30000 in
theorem zl_8 : Cond.classLink "LastAskedLaw" 8 (xR 7) ∈ xTs := xTs_of (x_t 22 rfl) rfl
set_option maxRecDepth 30000 in
theorem zl_16 : Cond.classLink "LastAskedLaw" 16 (xR 9) ∈ xTs := xTs_of (x_t 988 rfl) rfl
set_option maxRecDepth 30000 in
theorem zl_15 : Cond.methodLink "LastAskedLaw" 15 (xE 63).1 ∈ xTs := xTs_of (x_t 24 rfl) rfl
set_option maxRecDepth 30000 in
theorem zl_18 : Cond.methodLink "LastAskedLaw" 18 (xE 149).1 ∈ xTs := xTs_of (x_t 990 rfl) rfl
section ZN
variable {p : Program} {l : Launch} {e : Env} {R : Room} {s : State} {m : MethodId} {args : Array Value} {below : List Frame} {meth : Method} {c : Code} {Q : State → Prop} {dd : va_G} {cy : Nat → ClassId} {z : Nat} {sa : UInt32 → Nat} {av : Nat → Nat} {own : String} {cc : ByteArray} {ml : Nat} {σ σ1 : xM} {H : Heap} {locs : List Loc} {st : List Value} {arr : Array Slot}
theorem g_new {rn ix pc : Nat} (C : gCx dd cy z sa av 0 p s m args c own cc ml) (hrn : rn < 10) (hlk : Cond.classLink own ix (xR rn) ∈ xTs) (hcap : mN σ + 1 ≤ R.cells ∧ mU σ + xNF rn ≤ R.slots) (hdg : decode cc pc = .ok (.new ix, 3)) (a2 : va_P dd vwC2 (xW cy (xad z sa) σ) H) (a6 : va_S (fun q => z ≤ q) s.heap H locs)
    (kk : ∀ H1 : Heap, va_P dd vwC2 (xW cy (xad z sa) (sNew σ rn 0 (xNF rn))) H1 → va_S (fun q => z ≤ q) s.heap H1 locs → W p l e R s m args below meth c H1 locs (mN σ + 1) (mU σ + xNF rn) Q (F0 m (pc + 3) arr (.ref (z + mN σ) :: st))) : W p l e R s m args below meth c H locs (mN σ) (mU σ) Q (F0 m pc arr st) := by
  obtain ⟨hx, hb, hml, hown, hts, hK, hZ, hZs, hz⟩ := C
  obtain ⟨k0, k2, -, k4, -, k6⟩ := x_kc _ hrn
  have k1 := x_k2 k0
  have hR0 : (xkC rn).1 = xR rn := by
    rcases (show rn = 0 ∨ rn = 1 ∨ rn = 2 ∨ rn = 3 ∨ rn = 4 ∨ rn = 5 ∨ rn = 6 ∨ rn = 7 ∨ rn = 8 ∨ rn = 9 by omega) with q | q | q | q | q | q | q | q | q | q <;> rw [q] <;> rfl
  refine va_new (Ts := xTs) (fs := (List.range (xNF rn)).map (fun k => xfv (xad z sa) (xT rn k) 0 0 none)) hx hb hts (xTs_lays _ hrn) (xkT rn) k4 hown (hts _ (by rw [hR0]; exact hlk)) (hts _ (xTs_of (w := .instantiable (xkC rn).1 (xkC rn).2.2) (by rw [hR0, k2]; exact (x_ins rn hrn).1) rfl)) (hts _ (xTs_of (w := .initialized (xkC rn).1) (by rw [hR0]; exact (x_ins rn hrn).2) rfl)) hK a2 xW_D a6 (fun q hq => by omega) k1 (fun j hj => ?_) (by omega) (by rw [k2]; omega) hdg (fun q H1 b1 b2 b3 => ?_)
  · have h6 := (k6 j hj).1
    rw [k2] at hj
    rw [show vp_V ((List.range (xNF rn)).map (fun k => xfv (xad z sa) (xT rn k) 0 0 none)) j = xfv (xad z sa) (xT rn j) 0 0 none by simp [vp_V, List.getD_eq_getElem?_getD, hj], ← h6]
    have h7 := x_tyk rn hrn j hj
    cases hty : xkT rn j <;> simp [xtc, xfv, xfg, xrv, xv, defaultValue, hty] at h7 ⊢
  · refine x_fresh (g := fun q => F0 m (pc + 3) arr (.ref q :: st)) hz (Nat.zero_le _) rfl b1 b2 (fun hq => ?_)
    subst hq
    rw [xW_new (c := rn) (n := 0) (u := xNF rn) rfl (by rw [xcell, if_pos hrn])] at b1
    have hk := kk H1 b1 b3
    rw [k2]
    exact hk
theorem g_init {rn d ix pc a : Nat} (C : gCx dd cy z sa av 0 p s m args c own cc ml) (hls : arr.size = ml) (hrn : rn < 274) (hR : d + 1 ≤ R.frames ∧ 8 + ((xE rn).2.2.1 + 11) + 42 * d ≤ R.locals) (hmono : mN σ ≤ mN σ1 ∧ mU σ ≤ mU σ1) (hcap : mN σ1 ≤ R.cells ∧ mU σ1 ≤ R.slots)
    (hM : xMetP l dd cy z sa (jZ z sa av) d rn [.ref a] σ none σ1) (hE : (xE rn).2.2.2.2.2.2 = false ∧ (xE rn).1.name = "<init>" ∧ (xE rn).2.2.2.2.2.1 = 1) (hlk : Cond.methodLink own ix (xE rn).1 ∈ xTs)
    (hroom : (st.map fun v => v.category).sum ≤ 8) (hdg : decode cc pc = .ok (.invokespecial ix, 3)) (hP : va_P dd vwC2 (xW cy (xad z sa) σ) H) (hS : va_S (fun q => z ≤ q) s.heap H locs)
    (kk : ∀ (H1 : Heap) (locs1 : List Loc), va_P dd vwC2 (xW cy (xad z sa) σ1) H1 → va_S (fun q => z ≤ q) s.heap H1 locs1 → W p l e R s m args below meth c H1 locs1 (mN σ1) (mU σ1) Q (F0 m (pc + 3) arr st)) : W p l e R s m args below meth c H locs (mN σ) (mU σ) Q (F0 m pc arr (.ref (z + a) :: st)) := by
  have C0 := C
  obtain ⟨hx, hb, hml, hown, hts, hK, hZ, hZs, hz⟩ := C
  refine x_size hz hP (Nat.zero_le _) rfl hS (fun hsz => ?_)
  obtain ⟨w1, w2, w3, w4, w5, w6, ⟨w7, w8, w9⟩, w10, w11⟩ := x_meAt hrn
  obtain ⟨o2, o3, o6⟩ := hE
  obtain ⟨v1, v2⟩ := w4 o2
  have hcode0 : (Cond.code (xE rn).1 (xE rn).2.1 (xE rn).2.2.1 (xE rn).2.2.2.1).before args s = true := hts _ (xTs_of w1 rfl)
  have hini0 : (Cond.initialized (xE rn).1.cls).before args s = true := hts _ (xTs_of w2 rfl)
  have hlenS : ∀ sig, parseMethodDescriptor (xE rn).1.desc = some sig → ([] : List Value).length = sig.parameters.length := fun sig hs => by
    rw [hs, o2] at w9
    simp at w9
    simp
    omega
  have hpre : ∀ U : State, U.heap = H → s.WarmedH U.vm → va_Pc (([.ref a] : List Value).map (xv (xad z sa))) (xRel dd cy z sa (jZ z sa av) σ) (([.ref a] : List Value).map (xv (xad z sa))).toArray U := fun U hU hW => ⟨rfl, g_rel C0 hP hS hsz U hU hW⟩
  have hwords := g_words C0 hrn
  unfold xMetP at hM
  have hnone := w11 o3
  rw [hnone] at hM hcode0 hwords
  have hf : mN σ + (mN σ1 - mN σ) ≤ R.cells ∧ mU σ + (mU σ1 - mU σ) ≤ R.slots := by omega
  refine x_callk (va_runI (As := []) (rest := st) (g := F0 m pc arr (.ref (z + a) :: st)) (⟨hx, hb, hml, hown, hts⟩ : CallFix p m c cc ml s args xTs own) hM ⟨⟨rfl, rfl, hR.1, hR.2, hwords, List.mem_cons_self, hcode0, hini0, ⟨w7, w8⟩, hlenS, hts _ hlk⟩, o3, hts _ (xTs_of v1 rfl)⟩ ⟨x_blind (jZ_st z sa av), hpre⟩ rfl (by simp) hls rfl (by show 2 * 0 + _ ≤ 8; omega) hdg hf) hS (fun H1 locs1 b1 b3 => ?_)
  rw [show mN σ + (mN σ1 - mN σ) = mN σ1 by omega, show mU σ + (mU σ1 - mU σ) = mU σ1 by omega]
  exact kk H1 locs1 b1 b3
theorem g_newJ {pc : Nat} (C : gCx dd cy z sa av 0 p s m args c own cc ml) (hcap : mN σ + 1 ≤ R.cells ∧ mU σ + 1 ≤ R.slots) (hdg : decode cc pc = .ok (.newarray .long, 2)) (a2 : va_P dd vwC2 (xW cy (xad z sa) σ) H) (a6 : va_S (fun q => z ≤ q) s.heap H locs)
    (kk : ∀ H1 : Heap, va_P dd vwC2 (xW cy (xad z sa) (sNew σ 12 1 1)) H1 → va_S (fun q => z ≤ q) s.heap H1 locs → W p l e R s m args below meth c H1 locs (mN σ + 1) (mU σ + 1) Q (F0 m (pc + 2) arr (.ref (z + mN σ) :: st))) : W p l e R s m args below meth c H locs (mN σ) (mU σ) Q (F0 m pc arr (.int 1 :: st)) := by
  obtain ⟨hx, hb, hml, hown, hts, hK, hZ, hZs, hz⟩ := C
  have hn : (1 : Int32).toNatClampNeg = 1 := by decide
  refine va_newa (a0 := ((1 : Int32).toNatClampNeg, .inr (.inl (fun _ => 0)))) hx hb (ty := .long) (hts _ (xTs_of x_arrJ rfl)) rfl hK a2 xW_D a6 (fun q hq => by omega) (fun _ => rfl) (by decide) rfl (by decide) (by rw [hn] at *; omega) (by rw [hn] at *; omega) hdg (fun q cA H1 bK b1 b2 b3 => ?_)
  refine x_fresh (g := fun q => F0 m (pc + 2) arr (.ref q :: st)) hz (Nat.zero_le _) rfl b1 b2 (fun hq => ?_)
  subst hq
  have hcA : cA = cy 12 := by
    have e1 : s.vm.findClass ("[" ++ FieldType.long.toString) = some cA := (bK.2 4 (cA, .long) rfl).2
    have e2 : s.vm.findClass ("[" ++ FieldType.long.toString) = some (cy 12) := (hK.2 2 (cy 12, .long) rfl).2
    exact Option.some.inj (e1.symm.trans e2)
  rw [xW_new (c := 12) (n := 1) (u := 1) rfl (by subst hcA; rfl)] at b1
  exact kk H1 b1 b3
end ZN
