/-! THE JDK's own methods over the texts, and packed: contracts in the small machine's form -/
def jLen : List Nat := [4, 4, 5, 6, 4, 5, 5, 4, 3, 5, 4, 6, 6, 3, 4, 2, 4]
def jByt : List (List Int32) := [[99, 105, 116, 121], [104, 111, 117, 114], [103, 105, 118, 101, 115], [112, 101, 114, 115, 111, 110], [110, 101, 97, 114], [97, 115, 107, 101, 100], [104, 101, 97, 114, 100], [119, 101, 110, 116], [99, 97, 116], [112, 108, 97, 105, 110], [115, 104, 117, 116], [119, 97, 108, 108, 101, 100], [100, 111, 99, 116, 111, 114], [104, 97, 115], [100, 105, 101, 115], [97, 116], [103, 105, 118, 101]]
/-- the words of led's throw; those among them that aren't good ones, but hold over warmed tables all the same -/
def jTh : List Cond := vx_at0 "LastAsked" 322 "java/util/NoSuchElementException" ["java/lang/RuntimeException", "java/lang/Exception"]
def jN : List Cond := jTh.filter (fun w => !goodWord w)
def jF (U : State) : Prop := ∀ w ∈ jN, w.before #[] U = true
theorem jN_ok : jN.all (fun w => w.faceAtom && w.onTables) = true := by decide +kernel
theorem jF_warm {s U : State} (hW : s.WarmedH U.vm) (h : jF s) : jF U := by
  intro w hw
  have h1 := List.all_eq_true.mp jN_ok w hw
  rw [Bool.and_eq_true] at h1
  exact va_tabs h1.2 (u := s.setVm U.vm) rfl (Cond.faceAtom_setVm hW.alike w h1.1 (h w hw))
/-- what lies below z and stays there: the texts, String's and Preconditions' and Throwable's statics -/
def jZ (z : Nat) (sa : UInt32 → Nat) (av : Nat → Nat) (U : State) : Prop :=
  vk_S 17 jLen jByt (fun i => sa (UInt32.ofNat i)) av (fun q => z ≤ q) U U.heap ∧ va_Z "java/lang/String" "COMPACT_STRINGS" "Z" (.int 1) (fun q => z ≤ q) U U.heap ∧ va_Zq "jdk/internal/util/Preconditions" "SIOOBE_FORMATTER" "Ljava/util/function/BiFunction;" (fun q => z ≤ q) U U.heap ∧ vx_Zq Bundle.tN "UNASSIGNED_STACK" Bundle.steD (fun q => z ≤ q) U U.heap ∧ vx_Zq Bundle.tN "SUPPRESSED_SENTINEL" Bundle.listD (fun q => z ≤ q) U U.heap ∧ jF U
theorem jZ_st (z : Nat) (sa : UInt32 → Nat) (av : Nat → Nat) : xZst z (jZ z sa av) := by
  intro s U h hW hq
  obtain ⟨h1, h2, h3, h4, h5, h6⟩ := h
  have hk : ∀ a : Nat, a < s.heap.size → ¬ (fun q => z ≤ q) a → U.heap[a]? = s.heap[a]? := fun a _ ha => hq a (Nat.lt_of_not_le ha)
  exact ⟨(vk_S.moved hW.alike h1).kept hk, (va_Z.moved hW.alike h2).kept hk, (va_Zq.moved hW.alike h3).kept hk, (vx_Zq.moved hW.alike h4).kept hk, (vx_Zq.moved hW.alike h5).kept hk, jF_warm hW h6⟩
def jMet (l : Launch) (dd : va_G) (cy : Nat → ClassId) (z : Nat) (sa : UInt32 → Nat) (Zs : State → Prop) (y : MethodName) (cc : ByteArray) (ml : Nat) (ret : Option FieldType) (d : Nat) (vs : List Value) (σ : xM) (r : Option Value) : Prop :=
  Met l y (.code y cc ml ret :: xTs) (xRm d 0 0) (va_Pc vs (xRel dd cy z sa Zs σ)) (xQ dd cy z sa Zs r σ) 0 0 (fun q => z ≤ q)
def jCx (dd : va_G) (cy : Nat → ClassId) (z : Nat) (sa : UInt32 → Nat) (Zs : State → Prop) (p : Program) (s : State) (m : MethodId) (args : Array Value) (meth : Method) (c : Code) (own : String) (cc : ByteArray) (ml : Nat) (ret : Option FieldType) (σ : xM) : Prop :=
  p.tables.exec = Jvm.exec ∧ c.code = cc ∧ c.maxLocals = ml ∧ s.vm.findClass own = some m.cls ∧ (∀ w ∈ xTs, w.before args s = true) ∧ meth.sig.returnType = ret ∧ meth.locks = false ∧ xRel dd cy z sa Zs σ s
section JK
variable {p : Program} {l : Launch} {e : Env} {R : Room} {s : State} {m : MethodId} {args : Array Value} {below : List Frame} {meth : Method} {c : Code} {Q : State → Prop} {dd : va_G} {cy : Nat → ClassId} {z : Nat} {sa : UInt32 → Nat} {Zs : State → Prop} {own : String} {cc : ByteArray} {ml : Nat} {ret : Option FieldType} {σ : xM} {H : Heap} {locs : List Loc}
theorem j_of {y : MethodName} {d : Nat} {vs : List Value} {r : Option Value} (hy : plainName y.cls = true) (hlen : (lg_sl vs).length ≤ ml)
    (body : ∀ (p : Program) (e : Env) (s : State) (m : MethodId) (below : List Frame) (meth : Method) (c : Code), jCx dd cy z sa Zs p s m vs.toArray meth c y.cls cc ml ret σ → ∀ arr : Array Slot, lv_has arr ml (lv_args 0 vs) → W p l e (xRm d 0 0) s m vs.toArray below meth c s.heap [] 0 0 (MQ below (xQ dd cy z sa Zs r σ) vs.toArray s 0 0 (fun q => z ≤ q)) (F0 m 0 arr [])) : jMet l dd cy z sa Zs y cc ml ret d vs σ r := by
  refine Met.ofW (cc := cc) (maxL := ml) (ret := ret) hy rfl ?_
  intro p e s m args below meth c s₁ B hml hv
  obtain ⟨rfl, hrel⟩ := hv
  have hts := atoms_spec (ws := Cond.code y cc ml ret :: xTs) B.pre
  have hown : s.vm.findClass y.cls = some m.cls := findClass_of_methodNamed B.named
  rw [lg_entry_eq]
  exact body p e s m below meth c ⟨B.exec, B.bytes, hml, hown, fun w hw => hts w (List.mem_cons_of_mem _ hw), B.returns, B.notSynchronized, hrel⟩ _ (lv_entry vs hlen)
theorem j_rel (hZst : xZst z Zs) (C : jCx dd cy z sa Zs p s m args meth c own cc ml ret σ) (hP : va_P dd vwC2 (xW cy (xad z sa) σ) H) (hS : va_S (fun q => z ≤ q) s.heap H locs) (hsz : H.size = z + mN σ) (U : State) (hU : U.heap = H) (hW : s.WarmedH U.vm) : xRel dd cy z sa Zs σ U := by
  obtain ⟨hx, hb, hml, hown, hts, hret, hlocks, hz, hP0, hK, hZ, hZs⟩ := C
  refine ⟨by rw [hU]; exact hsz, by rw [hU]; exact hP, va_K.moved hW.alike hK, hZ.warm hW, hZst s U hZs hW (fun q hq => ?_)⟩
  rw [hU]
  exact hS.2.1 q (by omega) (by omega)
theorem j_size {g : JFrame} (C : jCx dd cy z sa Zs p s m args meth c own cc ml ret σ) (hP : va_P dd vwC2 (xW cy (xad z sa) σ) H) (hS : va_S (fun q => z ≤ q) s.heap H locs)
    (kk : H.size = z + mN σ → W p l e R s m args below meth c H locs 0 0 Q g) : W p l e R s m args below meth c H locs 0 0 Q g :=
  x_size (n0 := mN σ) C.2.2.2.2.2.2.2.1 hP (Nat.le_refl _) (by omega) hS kk
theorem j_blind {vs : List Value} (hZst : xZst z Zs) : FrameBlind (va_Pc vs (xRel dd cy z sa Zs σ)) := by
  intro a U g mk h
  obtain ⟨h1, h2, h3, h4, h5, h6⟩ := h
  exact ⟨h1, h2, h3, va_K.moved (u := U) (U := U.calling g mk a) (Vm.Alike.refl U.vm) h4, xZ.same (u := U) (U := U.calling g mk a) rfl h5, hZst U (U.calling g mk a) h6 (State.WarmedH.refl U) (fun _ _ => rfl)⟩
theorem j_words {y : MethodName} {cb : ByteArray} {mb : Nat} {rb : Option FieldType} (C : jCx dd cy z sa Zs p s m args meth c own cc ml ret σ) (hc : Cond.code y cb mb rb ∈ xTs) : ∀ w ∈ (Cond.code y cb mb rb :: xTs), ∀ (a' : Array Value) (U : State), s.WarmedH U.vm → w.before a' U = true := by
  intro w hw a' U hW
  have hw2 : w ∈ xTs := by
    rcases List.mem_cons.mp hw with rfl | h
    · exact hc
    · exact h
  exact word_at hW (good_of_word (List.mem_filter.mp hw2).2) (C.2.2.2.2.1 w hw2)
theorem j_iret {ty : FieldType} {v : Int32} {pc : Nat} {ls : Array Slot} (hZst : xZst z Zs) (C : jCx dd cy z sa Zs p s m args meth c own cc ml (some ty) σ) (hn : narrow ty (.int v) = .int v) (hP : va_P dd vwC2 (xW cy (xad z sa) σ) H) (hS : va_S (fun q => z ≤ q) s.heap H locs) (hdg : decode cc pc = .ok (.ireturn, 1)) :
    W p l e R s m args below meth c H locs 0 0 (MQ below (xQ dd cy z sa Zs (some (.int v)) σ) args s 0 0 (fun q => z ≤ q)) (F0 m pc ls [.int v]) := by
  refine j_size C hP hS (fun hsz => ?_)
  have hrel := j_rel hZst C hP hS hsz
  obtain ⟨hx, hb, hml, hown, hts, hret, hlocks, -⟩ := C
  exact W.zret hx hb hret hn (fun t ht hW => ⟨⟨rfl, hrel t ht hW⟩, hS.F ht⟩) hS.2.2 hdg (hlocks := hlocks)
theorem j_lret {v : Int64} {pc : Nat} {ls : Array Slot} (hZst : xZst z Zs) (C : jCx dd cy z sa Zs p s m args meth c own cc ml (some .long) σ) (hP : va_P dd vwC2 (xW cy (xad z sa) σ) H) (hS : va_S (fun q => z ≤ q) s.heap H locs) (hdg : decode cc pc = .ok (.lreturn, 1)) :
    W p l e R s m args below meth c H locs 0 0 (MQ below (xQ dd cy z sa Zs (some (.long v)) σ) args s 0 0 (fun q => z ≤ q)) (F0 m pc ls [.long v]) := by
  refine j_size C hP hS (fun hsz => ?_)
  have hrel := j_rel hZst C hP hS hsz
  obtain ⟨hx, hb, hml, hown, hts, hret, hlocks, -⟩ := C
  exact W.lret hx hb hret (fun t ht hW => ⟨⟨rfl, hrel t ht hW⟩, hS.F ht⟩) hS.2.2 hdg (hlocks := hlocks)
theorem j_vret {pc : Nat} {ls : Array Slot} (hZst : xZst z Zs) (C : jCx dd cy z sa Zs p s m args meth c own cc ml none σ) (hP : va_P dd vwC2 (xW cy (xad z sa) σ) H) (hS : va_S (fun q => z ≤ q) s.heap H locs) (hdg : decode cc pc = .ok (.return_, 1)) :
    W p l e R s m args below meth c H locs 0 0 (MQ below (xQ dd cy z sa Zs none σ) args s 0 0 (fun q => z ≤ q)) (F0 m pc ls []) := by
  refine j_size C hP hS (fun hsz => ?_)
  have hrel := j_rel hZst C hP hS hsz
  obtain ⟨hx, hb, hml, hown, hts, hret, hlocks, -⟩ := C
  exact W.vret hx hb hret (fun t ht hW => ⟨⟨rfl, hrel t ht hW⟩, hS.F ht⟩) hS.2.2 hdg (hlocks := hlocks)
theorem j_callS {y : MethodName} {cb : ByteArray} {mb ix pc d : Nat} {rb : Option FieldType} {As rest : List Value} {r1 : Option Value} {ls : Array Slot} (hZst : xZst z Zs) (C : jCx dd cy z sa Zs p s m args meth c own cc ml ret σ) (hls : ls.size = ml) (hR : d + 1 ≤ R.frames ∧ 42 * (d + 1) ≤ R.locals) (hmb : mb ≤ 8) (hM : jMet l dd cy z sa Zs y cb mb rb d As σ r1)
    (hc : Cond.code y cb mb rb ∈ xTs) (hi : Cond.initialized y.cls ∈ xTs) (hst : Cond.static y ∈ xTs) (hlk : Cond.methodLink own ix y ∈ xTs) (hy : y.cls ≠ "java/lang/invoke/MethodHandle" ∧ y.cls ≠ "java/lang/invoke/VarHandle") (hsig : (parseMethodDescriptor y.desc).map (fun q => q.parameters.length) = some As.length)
    (hroom : (rest.map fun v => v.category).sum ≤ 8) (hdg : decode cc pc = .ok (.invokestatic ix, 3)) (hP : va_P dd vwC2 (xW cy (xad z sa) σ) H) (hS : va_S (fun q => z ≤ q) s.heap H locs)
    (kk : ∀ (H1 : Heap) (locs1 : List Loc), va_P dd vwC2 (xW cy (xad z sa) σ) H1 → va_S (fun q => z ≤ q) s.heap H1 locs1 → W p l e R s m args below meth c H1 locs1 0 0 Q (F0 m (pc + 3) ls ((r1.map (xv (xad z sa))).toList ++ rest))) : W p l e R s m args below meth c H locs 0 0 Q (F0 m pc ls (As.reverse ++ rest)) := by
  refine j_size C hP hS (fun hsz => ?_)
  have hrel := j_rel hZst C hP hS hsz
  have hw := j_words C hc
  obtain ⟨hx, hb, hml, hown, hts, hret, hlocks, -⟩ := C
  have hlenS : ∀ sig, parseMethodDescriptor y.desc = some sig → As.length = sig.parameters.length := fun sig h => by
    rw [h] at hsig
    exact (Option.some.inj hsig).symm
  exact x_callk (mc := 0) (ms := 0) (va_runS (As := As) (rest := rest) (g := F0 m pc ls (As.reverse ++ rest)) (⟨hx, hb, hml, hown, hts⟩ : CallFix p m c cc ml s args xTs own) hM ⟨⟨rfl, rfl, hR.1, by show 8 + (mb + 11) + 42 * d ≤ R.locals; omega, hw, List.mem_cons_self, hts _ hc, hts _ hi, hy, hlenS, hts _ hlk⟩, hts _ hst⟩ ⟨j_blind hZst, fun U hU hW => ⟨rfl, hrel U hU hW⟩⟩ rfl rfl hls rfl (by show 2 * 0 + _ ≤ 8; omega) hdg ⟨Nat.zero_le _, Nat.zero_le _⟩) hS kk
theorem j_callV {y : MethodName} {cb : ByteArray} {mb ix pc d b : Nat} {rb : Option FieldType} {As rest : List Value} {r1 : Option Value} {ls : Array Slot} (hZst : xZst z Zs) (C : jCx dd cy z sa Zs p s m args meth c own cc ml ret σ) (hls : ls.size = ml) (hR : d + 1 ≤ R.frames ∧ 42 * (d + 1) ≤ R.locals) (hmb : mb ≤ 8) (hM : jMet l dd cy z sa Zs y cb mb rb d (.ref b :: As) σ r1)
    (hc : Cond.code y cb mb rb ∈ xTs) (hi : Cond.initialized y.cls ∈ xTs) (hin : Cond.instanceMethod y ∈ xTs) (hse : Cond.selects y.cls y y ∈ xTs) (hlk : Cond.methodLink own ix y ∈ xTs) (hy : y.cls ≠ "java/lang/invoke/MethodHandle" ∧ y.cls ≠ "java/lang/invoke/VarHandle") (hsig : (parseMethodDescriptor y.desc).map (fun q => q.parameters.length) = some As.length)
    (hrecv : ∃ cellB : Cell, H[b]? = some cellB ∧ cellB.vm.isStatics = false ∧ s.vm.findClass y.cls = some cellB.cls)
    (hroom : (rest.map fun v => v.category).sum ≤ 8) (hdg : decode cc pc = .ok (.invokevirtual ix, 3)) (hP : va_P dd vwC2 (xW cy (xad z sa) σ) H) (hS : va_S (fun q => z ≤ q) s.heap H locs)
    (kk : ∀ (H1 : Heap) (locs1 : List Loc), va_P dd vwC2 (xW cy (xad z sa) σ) H1 → va_S (fun q => z ≤ q) s.heap H1 locs1 → W p l e R s m args below meth c H1 locs1 0 0 Q (F0 m (pc + 3) ls ((r1.map (xv (xad z sa))).toList ++ rest))) : W p l e R s m args below meth c H locs 0 0 Q (F0 m pc ls (As.reverse ++ .ref b :: rest)) := by
  refine j_size C hP hS (fun hsz => ?_)
  have hrel := j_rel hZst C hP hS hsz
  have hw := j_words C hc
  obtain ⟨hx, hb, hml, hown, hts, hret, hlocks, -⟩ := C
  have hlenS : ∀ sig, parseMethodDescriptor y.desc = some sig → As.length = sig.parameters.length := fun sig h => by
    rw [h] at hsig
    exact (Option.some.inj hsig).symm
  exact x_callk (mc := 0) (ms := 0) (va_runV (As := As) (rest := rest) (g := F0 m pc ls (As.reverse ++ .ref b :: rest)) (⟨hx, hb, hml, hown, hts⟩ : CallFix p m c cc ml s args xTs own) hM ⟨⟨rfl, rfl, hR.1, by show 8 + (mb + 11) + 42 * d ≤ R.locals; omega, hw, List.mem_cons_self, hts _ hc, hts _ hi, hy, hlenS, hts _ hlk⟩, hts _ hin, hts _ hse⟩ ⟨j_blind hZst, hrecv, fun U hU hW => ⟨rfl, hrel U hU hW⟩⟩ rfl rfl hls rfl (by show 2 * 0 + _ ≤ 8; omega) hdg ⟨Nat.zero_le _, Nat.zero_le _⟩) hS kk
end JK
