/-! runs of the small machine are runs of the machine -/
theorem xfp_N {σ σ' : xM} {a k t : Nat} {v : Value} (h : xfp σ a k t v = some σ') : mN σ' = mN σ ∧ mU σ' = mU σ := by
  unfold xfp at h
  split at h
  all_goals (try split at h)
  all_goals (try split at h)
  all_goals (try split at h)
  all_goals first | (cases h; exact ⟨rfl, rfl⟩) | cases h
theorem xstep_mono {d rn pc : Nat} {i : Instr} {ri : Int32} {rl : Int64} {ls st : List Value} {σ : xM} {x : xSt} (h : xstep d i rn ri rl pc ls st σ = some x) : mN σ ≤ mN x.2.2.2 ∧ mU σ ≤ mU x.2.2.2 := by
  unfold xstep at h
  simp only [Bool.cond_eq_ite] at h
  split at h
  all_goals (try split at h)
  all_goals (try split at h)
  all_goals (try split at h)
  all_goals (try split at h)
  all_goals (try split at h)
  all_goals (try split at h)
  all_goals first
    | (cases h; exact ⟨Nat.le_refl _, Nat.le_refl _⟩)
    | (cases h; exact ⟨Nat.le_succ _, Nat.le_add_right _ _⟩)
    | (rename_i hfp; cases h; obtain ⟨h1, h2⟩ := xfp_N hfp; exact ⟨Nat.le_of_eq h1.symm, Nat.le_of_eq h2.symm⟩)
    | cases h
/-- prim: methods whose contracts are proved by hand -/
def xex (prim : Nat → Nat → List Value → xM → Option (Option Value × xM)) : Nat → Nat → Nat → Nat → List Value → List Value → xM → Option (Option Value × xM)
  | 0, _, _, _, _, _, _ => none
  | n + 1, d, k, pc, ls, st, σ => match xcode k pc with
    | none => none
    | some en => match xstep d en.2.1 en.2.2.2.1 en.2.2.2.2.1 en.2.2.2.2.2 pc ls st σ with
      | some x => xex prim n d k x.1 x.2.1 x.2.2.1 x.2.2.2
      | none => match xret en.2.1 (xE k).2.2.2.1 st with
        | some r => some (r, σ)
        | none => match xargs en.2.1 en.2.2.2.1 st σ with
          | none => none
          | some ar => match d with
            | 0 => none
            | d' + 1 => bif xsr ar.2 && Nat.ble ((xflat ar.1).length) (xE en.2.2.2.1).2.2.1 && Nat.blt en.2.2.2.1 274 then
                (match (match prim d' en.2.2.2.1 ar.1 σ with
                  | some y => some y
                  | none => xex prim n d' en.2.2.2.1 0 (xent ar.1 (xE en.2.2.2.1).2.2.1) [] σ) with
                | some y => xex prim n (d' + 1) k (pc + 3) ls (y.1.toList ++ ar.2) y.2
                | none => none) else none
/-- what prims never do: give cells back -/
def xpm (prim : Nat → Nat → List Value → xM → Option (Option Value × xM)) : Prop := ∀ (d k : Nat) (as : List Value) (σ : xM) (y : Option Value × xM), prim d k as σ = some y → mN σ ≤ mN y.2 ∧ mU σ ≤ mU y.2
theorem xex_mono {prim : Nat → Nat → List Value → xM → Option (Option Value × xM)} (hpm : xpm prim) : ∀ (n d k pc : Nat) (ls st : List Value) (σ : xM) (y : Option Value × xM), xex prim n d k pc ls st σ = some y → mN σ ≤ mN y.2 ∧ mU σ ≤ mU y.2 := by
  intro n
  induction n with
  | zero => intro d k pc ls st σ y h; cases h
  | succ n ih =>
    intro d k pc ls st σ y h
    unfold xex at h
    split at h
    · cases h
    · split at h
      · rename_i hs
        have h1 := xstep_mono hs
        have h2 := ih _ _ _ _ _ _ _ h
        exact ⟨Nat.le_trans h1.1 h2.1, Nat.le_trans h1.2 h2.2⟩
      · split at h
        · cases h
          exact ⟨Nat.le_refl _, Nat.le_refl _⟩
        · split at h
          · cases h
          · split at h
            · cases h
            · rw [Bool.cond_eq_ite] at h
              split at h
              · split at h
                · rename_i y1 hc
                  have h2 := ih _ _ _ _ _ _ _ h
                  have h1 : mN σ ≤ mN y1.2 ∧ mU σ ≤ mU y1.2 := by
                    split at hc
                    · rename_i hp
                      cases hc
                      exact hpm _ _ _ _ _ hp
                    · exact ih _ _ _ _ _ _ _ hc
                  exact ⟨Nat.le_trans h1.1 h2.1, Nat.le_trans h1.2 h2.2⟩
                · cases h
              · cases h
def xRel (dd : va_G) (cy : Nat → ClassId) (z : Nat) (sa : UInt32 → Nat) (Zs : State → Prop) (σ : xM) (U : State) : Prop := U.heap.size = z + mN σ ∧ va_P dd vwC2 (xW cy (xad z sa) σ) U.heap ∧ va_K dd vwC2 (xty cy) U ∧ xZ sa U ∧ Zs U
def xQ (dd : va_G) (cy : Nat → ClassId) (z : Nat) (sa : UInt32 → Nat) (Zs : State → Prop) (r : Option Value) (σ' : xM) : Array Value → State → Outcome → State → Prop := fun _ st oc t => (oc = .returned (r.map (xv (xad z sa))) ∧ xRel dd cy z sa Zs σ' t) ∧ va_F (fun q => z ≤ q) st t
def xRm (d mc ms : Nat) : Room := { frames := d, cells := mc, slots := ms, locals := 42 * d }
def xMetP (l : Launch) (dd : va_G) (cy : Nat → ClassId) (z : Nat) (sa : UInt32 → Nat) (Zs : State → Prop) (d k : Nat) (as : List Value) (σ : xM) (r : Option Value) (σ' : xM) : Prop :=
  Met l (xE k).1 (.code (xE k).1 (xE k).2.1 (xE k).2.2.1 (xE k).2.2.2.1 :: xTs) (xRm d (mN σ' - mN σ) (mU σ' - mU σ)) (va_Pc (as.map (xv (xad z sa))) (xRel dd cy z sa Zs σ)) (xQ dd cy z sa Zs r σ') (mN σ' - mN σ) (mU σ' - mU σ) (fun q => z ≤ q)
/-- what lies below z stays as it is: so does Zs -/
def xZst (z : Nat) (Zs : State → Prop) : Prop := ∀ s U : State, Zs s → s.WarmedH U.vm → (∀ q, q < z → U.heap[q]? = s.heap[q]?) → Zs U
section XR
variable {p : Program} {l : Launch} {e : Env} {R : Room} {s : State} {m : MethodId} {args : Array Value} {below : List Frame} {meth : Method} {c : Code} {Q : State → Prop} {dd : va_G} {cy : Nat → ClassId} {z : Nat} {sa : UInt32 → Nat} {n0 u0 : Nat} {Zs : State → Prop}
theorem x_relAt {σ : xM} {H : Heap} {locs : List Loc} {k : Nat} (hZst : xZst z Zs) (C : xCx dd cy sa p s m args meth c k) (hZs : Zs s) (hz : s.heap.size = z + n0) (hP : va_P dd vwC2 (xW cy (xad z sa) σ) H) (hS : va_S (fun q => z ≤ q) s.heap H locs) (hsz : H.size = z + mN σ) (U : State) (hU : U.heap = H) (hW : s.WarmedH U.vm) : xRel dd cy z sa Zs σ U := by
  obtain ⟨hx, hb, hml, hown, hts, hname, hK, hZ⟩ := C
  refine ⟨by rw [hU]; exact hsz, by rw [hU]; exact hP, va_K.moved hW.alike hK, hZ.warm hW, hZst s U hZs hW (fun q hq => ?_)⟩
  rw [hU]
  exact hS.2.1 q (by omega) (by omega)
theorem x_ret {σ : xM} {k pc len : Nat} {i : Instr} {t : Option FieldType} {ls st : List Value} {r : Option Value} (hZst : xZst z Zs) (C : xCx dd cy sa p s m args meth c k) (hret : meth.sig.returnType = t) (hlocks : meth.locks = false) (hZs : Zs s) (hz : s.heap.size = z + n0)
    (hdg : decode (xE k).2.1 pc = .ok (i, len)) (hlen : xlen i = 0 ∨ xlen i = len) (h : xret i t st = some r) :
    xG p l e R s m args below meth c (MQ below (xQ dd cy z sa Zs r σ) args s (mN σ - n0) (mU σ - u0) (fun q => z ≤ q)) dd cy z sa n0 u0 pc ls st σ := by
  have C0 := C
  obtain ⟨hx, hb, hml, hown, hts, hname, hK, hZ⟩ := C
  intro arr H locs a1 a2 a4 a5 a6
  refine x_size hz a2 a4 rfl a6 (fun hsz => ?_)
  have hq : ∀ tt : State, tt.heap = H → s.WarmedH tt.vm → xQ dd cy z sa Zs r σ args s (.returned (r.map (xv (xad z sa)))) tt := fun tt ht hW => ⟨⟨rfl, x_relAt hZst C0 hZs hz a2 a6 hsz tt ht hW⟩, a6.F ht⟩
  unfold xret at h
  split at h
  · cases h
    exact W.iret hx hb hret hq a6.2.2 (xl1 rfl (by decide) hlen hdg) (hlocks := hlocks)
  · split at h
    · rename_i hb01
      cases h
      exact W.zret hx hb hret (by rcases hb01 with rfl | rfl <;> rfl) hq a6.2.2 (xl1 rfl (by decide) hlen hdg) (hlocks := hlocks)
    · cases h
  · cases h
    exact W.lret hx hb hret hq a6.2.2 (xl1 rfl (by decide) hlen hdg) (hlocks := hlocks)
  · cases h
    exact W.aret hx hb hret (Or.inl ⟨_, rfl⟩) (Or.inr ⟨_, rfl⟩) hq a6.2.2 (xl1 rfl (by decide) hlen hdg) (hlocks := hlocks)
  · cases h
    exact W.vret hx hb hret hq a6.2.2 (xl1 rfl (by decide) hlen hdg) (hlocks := hlocks)
  · cases h
theorem x_callk {σ1 : xM} {r1 : Option Value} {H : Heap} {locs : List Loc} {cells slots mc ms pc : Nat} {arr : Array Slot} {st0 rest : List Value} {a : Array Value} (hr : va_Run p l e R s m args below meth c H locs cells slots mc ms (F0 m pc arr st0) rest (xQ dd cy z sa Zs r1 σ1 a) (fun q => z ≤ q)) (hS : va_S (fun q => z ≤ q) s.heap H locs)
    (kk : ∀ (H1 : Heap) (locs1 : List Loc), va_P dd vwC2 (xW cy (xad z sa) σ1) H1 → va_S (fun q => z ≤ q) s.heap H1 locs1 → W p l e R s m args below meth c H1 locs1 (cells + mc) (slots + ms) Q (F0 m (pc + 3) arr ((r1.map (xv (xad z sa))).toList ++ rest))) : W p l e R s m args below meth c H locs cells slots Q (F0 m pc arr st0) := by
  intro T hT X
  obtain ⟨v, st₀, t, T', L, h0, X', hL, e1, e2, ⟨⟨hv, -, hP, -, -, -⟩, hz, hk⟩, st⟩ := hr T hT X
  cases hv
  rw [h0] at hz hk
  obtain ⟨t2, a1, b1⟩ := kk T'.heap (locs ++ L) (by rw [e1]; exact hP)
    ⟨Nat.le_trans hS.1 (by rw [e1]; exact hz), fun q h1 h2 => by rw [e1, hk q (Nat.lt_of_lt_of_le h1 hS.1) h2]; exact hS.2.1 q h1 h2, fun q hq => by
      rcases List.mem_append.mp hq with h | h
      · exact hS.2.2 q h
      · exact hL q h⟩ T' rfl X'
  exact ⟨t2, st t2 a1, b1⟩
theorem x_blind {as : List Value} {σ : xM} (hZst : xZst z Zs) : FrameBlind (va_Pc (as.map (xv (xad z sa))) (xRel dd cy z sa Zs σ)) := by
  intro a U g mk h
  obtain ⟨h1, h2, h3, h4, h5, h6⟩ := h
  exact ⟨h1, h2, h3, va_K.moved (u := U) (U := U.calling g mk a) (Vm.Alike.refl U.vm) h4, xZ.same (u := U) (U := U.calling g mk a) rfl h5, hZst U (U.calling g mk a) h6 (State.WarmedH.refl U) (fun _ _ => rfl)⟩
theorem x_words {k rn : Nat} (C : xCx dd cy sa p s m args meth c k) (hrn : rn < 274) : ∀ w ∈ (Cond.code (xE rn).1 (xE rn).2.1 (xE rn).2.2.1 (xE rn).2.2.2.1 :: xTs), ∀ (a' : Array Value) (U : State), s.WarmedH U.vm → w.before a' U = true := by
  intro w hw a' U hW
  have hw2 : w ∈ xTs := by
    rcases List.mem_cons.mp hw with rfl | h
    · exact xTs_of (x_meAt hrn).1 rfl
    · exact h
  exact word_at hW (good_of_word (List.mem_filter.mp hw2).2) (C.2.2.2.2.1 w hw2)
/-- a call of the small machine -/
theorem x_call {k d pc len rn : Nat} {i : Instr} {ri : Int32} {rl : Int64} {ls st : List Value} {σ σ1 : xM} {ar : List Value × List Value} {r1 : Option Value} (hZst : xZst z Zs) (C : xCx dd cy sa p s m args meth c k) (hZs : Zs s) (hR : d + 1 ≤ R.frames ∧ 42 * (d + 1) ≤ R.locals) (hz : s.heap.size = z + n0)
    (hcap : mN σ1 - n0 ≤ R.cells ∧ mU σ1 - u0 ≤ R.slots) (hmono : mN σ ≤ mN σ1 ∧ mU σ ≤ mU σ1)
    (hdg : decode (xE k).2.1 pc = .ok (i, len)) (hlen : xlen i = 0 ∨ xlen i = len) (hok : xokI (xE k).2.2.2.2.1 (decide ((xE k).1.name = "<init>")) pc i rn ri rl = true)
    (har : xargs i rn st σ = some ar) (hns : xstep (d + 1) i rn ri rl pc ls st σ = none) (hsr : xsr ar.2 = true) (hrn : rn < 274) (hM : xMetP l dd cy z sa Zs d rn ar.1 σ r1 σ1)
    (kk : xG p l e R s m args below meth c Q dd cy z sa n0 u0 (pc + 3) ls (r1.toList ++ ar.2) σ1) : xG p l e R s m args below meth c Q dd cy z sa n0 u0 pc ls st σ := by
  have C0 := C
  obtain ⟨hx, hb, hml, hown, hts, hname, hK, hZ⟩ := C
  obtain ⟨w1, w2, w3, w4, w5, w6, ⟨w7, w8, w9⟩, w10, w11⟩ := x_meAt hrn
  intro arr H locs a1 a2 a4 a5 a6
  refine x_size hz a2 a4 rfl a6 (fun hsz => ?_)
  have hroom : ((ar.2.map (xv (xad z sa))).map fun v => v.category).sum ≤ 8 := by
    rw [xv_cats]
    exact Nat.le_of_ble_eq_true hsr
  have hgo : ∀ (H1 : Heap) (locs1 : List Loc), va_P dd vwC2 (xW cy (xad z sa) σ1) H1 → va_S (fun q => z ≤ q) s.heap H1 locs1 → W p l e R s m args below meth c H1 locs1 (mN σ - n0 + (mN σ1 - mN σ)) (mU σ - u0 + (mU σ1 - mU σ)) Q (F0 m (pc + 3) arr ((r1.map (xv (xad z sa))).toList ++ ar.2.map (xv (xad z sa)))) := by
    intro H1 locs1 b1 b3
    have hk := kk arr H1 locs1 a1 b1 (by omega) (by omega) b3
    rw [show mN σ - n0 + (mN σ1 - mN σ) = mN σ1 - n0 by omega, show mU σ - u0 + (mU σ1 - mU σ) = mU σ1 - u0 by omega]
    rw [List.map_append, show (r1.toList).map (xv (xad z sa)) = (r1.map (xv (xad z sa))).toList by cases r1 <;> rfl] at hk
    exact hk
  have hf : mN σ - n0 + (mN σ1 - mN σ) ≤ R.cells ∧ mU σ - u0 + (mU σ1 - mU σ) ≤ R.slots := by omega
  have hpre : ∀ U : State, U.heap = H → s.WarmedH U.vm → va_Pc (ar.1.map (xv (xad z sa))) (xRel dd cy z sa Zs σ) (ar.1.map (xv (xad z sa))).toArray U := fun U hU hW => ⟨rfl, x_relAt hZst C0 hZs hz a2 a6 hsz U hU hW⟩
  have hfix : CallFix p m c (xE k).2.1 (xE k).2.2.1 s args xTs (xR (xE k).2.2.2.2.1) := ⟨hx, hb, hml, hown, hts⟩
  have hcode0 : (Cond.code (xE rn).1 (xE rn).2.1 (xE rn).2.2.1 (xE rn).2.2.2.1).before args s = true := hts _ (xTs_of w1 rfl)
  have hini0 : (Cond.initialized (xE rn).1.cls).before args s = true := hts _ (xTs_of w2 rfl)
  have hfr : (xRm d (mN σ1 - mN σ) (mU σ1 - mU σ)).frames + 1 ≤ R.frames := hR.1
  have hlo : 8 + ((xE rn).2.2.1 + 11) + (xRm d (mN σ1 - mN σ) (mU σ1 - mU σ)).locals ≤ R.locals := by
    show 8 + ((xE rn).2.2.1 + 11) + 42 * d ≤ R.locals
    omega
  have hsize : (F0 m pc arr (st.map (xv (xad z sa)))).locals.size = (xE k).2.2.1 := by
    show arr.size = _
    rw [a1.2.1, hml]
  have hroom2 : 2 * (F0 m pc arr (st.map (xv (xad z sa)))).monitorRoom + ((ar.2.map (xv (xad z sa))).map fun v => v.category).sum ≤ 8 := by
    show 2 * 0 + _ ≤ 8
    omega
  have hlinkN : ∀ ix, xm3 xVN (xE k).2.2.2.2.1 ix rn = true → (Cond.methodLinkNest (xR (xE k).2.2.2.2.1) ix (xE rn).1 (xHost (xE k).2.2.2.2.1)).before args s = true := fun ix h => by
    have hw : va_Nw (xvn ((xE k).2.2.2.2.1, ix, rn)) s := hZ.2.1 _ (xm3_in h)
    unfold xvn at hw
    exact va_Nw.use (by rfl) hw
  have hlinkV : ∀ ix, xm3 xVL (xE k).2.2.2.2.1 ix rn = true → (Cond.methodLink (xR (xE k).2.2.2.2.1) ix (xE rn).1).before args s = true := fun ix h => hts _ (xTs_of (w := .methodLink (xR (xE k).2.2.2.2.1) ix (xE rn).1) (x_vl (xm3_in h)) rfl)
  have hwords := x_words C0 hrn
  unfold xMetP at hM
  have hcal := x_cal hrn
  unfold xargs at har
  generalize xE rn = E at *
  split at har
  · -- virtual
    rename_i ix
    simp only [xokI, Bool.and_eq_true, Bool.or_eq_true, Nat.blt_eq, Bool.not_eq_true', hcal] at hok
    obtain ⟨⟨⟨⟨-, o2⟩, o3⟩, o4⟩, o5⟩ := hok
    split at har
    · rename_i a as hta
      rw [Bool.cond_eq_ite] at har
      split at har
      · rename_i hc
        cases har
        simp only [Bool.and_eq_true, Nat.blt_eq, Nat.beq_eq] at hc
        obtain ⟨⟨c1, c2⟩, c3⟩ := hc
        have htk : st.take E.2.2.2.2.2.1 = as.reverse ++ [.ref a] := by
          have := congrArg List.reverse hta
          simpa using this
        have hst : st = as.reverse ++ .ref a :: st.drop E.2.2.2.2.2.1 := by
          have := (List.take_append_drop E.2.2.2.2.2.1 st).symm
          rw [htk] at this
          simpa using this
        have hstack : (F0 m pc arr (st.map (xv (xad z sa)))).stack = (as.map (xv (xad z sa))).reverse ++ .ref (z + a) :: (st.drop E.2.2.2.2.2.1).map (xv (xad z sa)) := by
          show st.map (xv (xad z sa)) = _
          conv => lhs; rw [hst]
          simp [xv, xad]
        obtain ⟨k0, k2, -⟩ := x_kc _ o4
        have k1 := x_k2 k0
        have hcls : (xkC E.2.2.2.2.1).1 = E.1.cls := by
          rw [w6]
          generalize E.2.2.2.2.1 = o at o4
          rcases (show o = 0 ∨ o = 1 ∨ o = 2 ∨ o = 3 ∨ o = 4 ∨ o = 5 ∨ o = 6 ∨ o = 7 ∨ o = 8 ∨ o = 9 by omega) with q | q | q | q | q | q | q | q | q | q <;> rw [q] <;> rfl
        have hrecv : ∃ cellB : Cell, H[z + a]? = some cellB ∧ cellB.vm.isStatics = false ∧ s.vm.findClass E.1.cls = some cellB.cls := by
          have := va_recv hK a2 k1 ((xW_at cy (xad z sa) σ c1).trans (by rw [xC_obj c2 o4]))
          rw [hcls] at this
          exact this
        have hlenS : ∀ sig, parseMethodDescriptor E.1.desc = some sig → as.length = sig.parameters.length := fun sig hs => by
          rw [hs, o2] at w9
          simp at w9
          omega
        obtain ⟨v1, v2⟩ := w4 o2
        have hsel : (Cond.selects E.1.cls E.1 E.1).before args s = true := by
          rcases v2 with v2 | v2
          · rw [v2] at o3
            simp at o3
          · exact hts _ (xTs_of v2 rfl)
        rcases o5 with o5 | o5
        · exact x_callk (va_runV (As := as.map (xv (xad z sa))) (rest := (st.drop E.2.2.2.2.2.1).map (xv (xad z sa))) hfix hM ⟨⟨rfl, rfl, hfr, hlo, hwords, List.mem_cons_self, hcode0, hini0, ⟨w7, w8⟩, hlenS, hlinkV _ o5⟩, hts _ (xTs_of v1 rfl), hsel⟩ ⟨x_blind hZst, hrecv, hpre⟩ rfl (by simp) hsize hstack hroom2 (xl1 rfl (by decide) hlen hdg) hf) a6 hgo
        · exact x_callk (va_runVN (host := xHost (xE k).2.2.2.2.1) (As := as.map (xv (xad z sa))) (rest := (st.drop E.2.2.2.2.2.1).map (xv (xad z sa))) hfix hM ⟨⟨⟨rfl, rfl, hfr, hlo, hwords, List.mem_cons_self⟩, hcode0, hini0, ⟨w7, w8⟩, hlenS, hlinkN _ o5⟩, hts _ (xTs_of v1 rfl), hsel⟩ ⟨x_blind hZst, hrecv, hpre⟩ rfl (by simp) hsize hstack hroom2 (xl1 rfl (by decide) hlen hdg) hf) a6 hgo
      · cases har
    · cases har
  · -- a constructor
    rename_i ix
    have hn9 : Nat.beq rn 9000 = false := by
      cases hq : Nat.beq rn 9000 with
      | false => rfl
      | true => rw [Nat.beq_eq] at hq; omega
    simp only [xokI, hn9, cond_false, Bool.and_eq_true, Bool.or_eq_true, Nat.blt_eq, Bool.not_eq_true', hcal, decide_eq_true_eq] at hok
    obtain ⟨⟨⟨-, o2⟩, o3⟩, o5⟩ := hok
    split at har
    · rename_i a as hta
      rw [Bool.cond_eq_ite] at har
      split at har
      · rename_i c3
        cases har
        rw [Nat.beq_eq] at c3
        have htk : st.take E.2.2.2.2.2.1 = as.reverse ++ [.ref a] := by
          have := congrArg List.reverse hta
          simpa using this
        have hst : st = as.reverse ++ .ref a :: st.drop E.2.2.2.2.2.1 := by
          have := (List.take_append_drop E.2.2.2.2.2.1 st).symm
          rw [htk] at this
          simpa using this
        have hstack : (F0 m pc arr (st.map (xv (xad z sa)))).stack = (as.map (xv (xad z sa))).reverse ++ .ref (z + a) :: (st.drop E.2.2.2.2.2.1).map (xv (xad z sa)) := by
          show st.map (xv (xad z sa)) = _
          conv => lhs; rw [hst]
          simp [xv, xad]
        have hlenS : ∀ sig, parseMethodDescriptor E.1.desc = some sig → as.length = sig.parameters.length := fun sig hs => by
          rw [hs, o2] at w9
          simp at w9
          omega
        obtain ⟨v1, v2⟩ := w4 o2
        have hnone := w11 o3
        rw [hnone] at hM hcode0 hwords
        rcases o5 with o5 | o5
        · exact x_callk (va_runI (As := as.map (xv (xad z sa))) (rest := (st.drop E.2.2.2.2.2.1).map (xv (xad z sa))) hfix hM ⟨⟨rfl, rfl, hfr, hlo, hwords, List.mem_cons_self, hcode0, hini0, ⟨w7, w8⟩, hlenS, hlinkV _ o5⟩, o3, hts _ (xTs_of v1 rfl)⟩ ⟨x_blind hZst, hpre⟩ rfl (by simp) hsize hstack hroom2 (xl1 rfl (by decide) hlen hdg) hf) a6 hgo
        · exact x_callk (va_runIN (host := xHost (xE k).2.2.2.2.1) (As := as.map (xv (xad z sa))) (rest := (st.drop E.2.2.2.2.2.1).map (xv (xad z sa))) hfix hM ⟨⟨⟨rfl, rfl, hfr, hlo, hwords, List.mem_cons_self⟩, hcode0, hini0, ⟨w7, w8⟩, hlenS, hlinkN _ o5⟩, o3, hts _ (xTs_of v1 rfl)⟩ ⟨x_blind hZst, hpre⟩ rfl (by simp) hsize hstack hroom2 (xl1 rfl (by decide) hlen hdg) hf) a6 hgo
      · cases har
    · cases har
  · -- static
    rename_i ix
    have hn1 : Nat.beq rn 9001 = false := by
      cases hq : Nat.beq rn 9001 with
      | false => rfl
      | true => rw [Nat.beq_eq] at hq; omega
    have hn2 : Nat.beq rn 9002 = false := by
      cases hq : Nat.beq rn 9002 with
      | false => rfl
      | true => rw [Nat.beq_eq] at hq; omega
    have hn3 : Nat.beq rn 9003 = false := by
      cases hq : Nat.beq rn 9003 with
      | false => rfl
      | true => rw [Nat.beq_eq] at hq; omega
    simp only [xokI, hn1, hn2, hn3, cond_false, Bool.and_eq_true, Bool.or_eq_true, Nat.blt_eq, hcal] at hok
    obtain ⟨⟨-, o2⟩, o5⟩ := hok
    rw [Bool.cond_eq_ite] at har
    split at har
    · rename_i c3
      cases har
      rw [Nat.beq_eq] at c3
      have hstack : (F0 m pc arr (st.map (xv (xad z sa)))).stack = ((st.take E.2.2.2.2.2.1).reverse.map (xv (xad z sa))).reverse ++ (st.drop E.2.2.2.2.2.1).map (xv (xad z sa)) := by
        show st.map (xv (xad z sa)) = _
        rw [← List.map_reverse, List.reverse_reverse, ← List.map_append, List.take_append_drop]
      have hlenS : ∀ sig, parseMethodDescriptor E.1.desc = some sig → E.2.2.2.2.2.1 = sig.parameters.length := fun sig hs => by
        rw [hs, o2] at w9
        simp at w9
        omega
      rcases o5 with o5 | o5
      · exact x_callk (va_runS (As := (st.take E.2.2.2.2.2.1).reverse.map (xv (xad z sa))) (rest := (st.drop E.2.2.2.2.2.1).map (xv (xad z sa))) hfix hM ⟨⟨rfl, rfl, hfr, hlo, hwords, List.mem_cons_self, hcode0, hini0, ⟨w7, w8⟩, hlenS, hlinkV _ o5⟩, hts _ (xTs_of (w3 o2) rfl)⟩ ⟨x_blind hZst, hpre⟩ rfl (by simp only [List.length_map, List.length_reverse]; exact c3) hsize hstack hroom2 (xl1 rfl (by decide) hlen hdg) hf) a6 hgo
      · exact x_callk (va_runSN (host := xHost (xE k).2.2.2.2.1) (As := (st.take E.2.2.2.2.2.1).reverse.map (xv (xad z sa))) (rest := (st.drop E.2.2.2.2.2.1).map (xv (xad z sa))) hfix hM ⟨⟨⟨rfl, rfl, hfr, hlo, hwords, List.mem_cons_self⟩, hcode0, hini0, ⟨w7, w8⟩, hlenS, hlinkN _ o5⟩, hts _ (xTs_of (w3 o2) rfl), trivial⟩ ⟨x_blind hZst, hpre⟩ rfl (by simp only [List.length_map, List.length_reverse]; exact c3) hsize hstack hroom2 (xl1 rfl (by decide) hlen hdg) hf) a6 hgo
    · cases har
  · cases har
/-- a method's contract out of its body -/
theorem x_metOf {d k : Nat} {as : List Value} {σ σ' : xM} {r : Option Value} (hk : k < 274) (hfl : (xflat as).length ≤ (xE k).2.2.1)
    (ih : ∀ (p : Program) (e : Env) (R : Room) (s : State) (m : MethodId) (args : Array Value) (below : List Frame) (meth : Method) (c : Code) (n0 u0 : Nat), xCx dd cy sa p s m args meth c k → meth.sig.returnType = (xE k).2.2.2.1 → meth.locks = false → Zs s → (d ≤ R.frames ∧ 42 * d ≤ R.locals) → s.heap.size = z + n0 → n0 ≤ mN σ → u0 ≤ mU σ → (mN σ' - n0 ≤ R.cells ∧ mU σ' - u0 ≤ R.slots) →
      xG p l e R s m args below meth c (MQ below (xQ dd cy z sa Zs r σ') args s (mN σ' - n0) (mU σ' - u0) (fun q => z ≤ q)) dd cy z sa n0 u0 0 (xent as (xE k).2.2.1) [] σ) : xMetP l dd cy z sa Zs d k as σ r σ' := by
  obtain ⟨w1, w2, w3, w4, w5, w6, w7, w10, w11⟩ := x_meAt hk
  refine Met.ofW (cc := (xE k).2.1) (maxL := (xE k).2.2.1) (ret := (xE k).2.2.2.1) w5 rfl ?_
  intro p e s m args below meth c s₁ B hml hv
  obtain ⟨rfl, hsz, hP, hK, hZ, hZs⟩ := hv
  have hts := atoms_spec (ws := Cond.code (xE k).1 (xE k).2.1 (xE k).2.2.1 (xE k).2.2.2.1 :: xTs) B.pre
  have hown : s.vm.findClass (xE k).1.cls = some m.cls := findClass_of_methodNamed B.named
  rw [w6] at hown
  have hG := ih p e (xRm d (mN σ' - mN σ) (mU σ' - mU σ)) s m _ below meth c (mN σ) (mU σ) ⟨B.exec, B.bytes, hml, hown, fun w hw => hts w (List.mem_cons_of_mem _ hw), (name_of_methodNamed B.named B.method).1, hK, hZ⟩ B.returns B.notSynchronized hZs ⟨Nat.le_refl _, Nat.le_refl _⟩ hsz (Nat.le_refl _) (Nat.le_refl _) ⟨Nat.le_refl _, Nat.le_refl _⟩
  rw [lg_entry_eq]
  have hk2 := hG _ s.heap [] (by rw [hml]; exact xL_ent (xad z sa) as hfl) hP (Nat.le_refl _) (Nat.le_refl _) va_S.rf
  rw [Nat.sub_self, Nat.sub_self] at hk2
  exact hk2
end XR
/-- RUNS: what the small machine answers, the machine answers -/
theorem x_sound {l : Launch} {dd : va_G} {cy : Nat → ClassId} {z : Nat} {sa : UInt32 → Nat} {Zs : State → Prop} {prim : Nat → Nat → List Value → xM → Option (Option Value × xM)} (hZst : xZst z Zs) (hpm : xpm prim) (hprim : ∀ (d k : Nat) (as : List Value) (σ : xM) (y : Option Value × xM), prim d k as σ = some y → xMetP l dd cy z sa Zs d k as σ y.1 y.2) :
    ∀ (n d k pc : Nat) (ls st : List Value) (σ : xM) (r : Option Value) (σ' : xM), xex prim n d k pc ls st σ = some (r, σ') →
      ∀ (p : Program) (e : Env) (R : Room) (s : State) (m : MethodId) (args : Array Value) (below : List Frame) (meth : Method) (c : Code) (n0 u0 : Nat), xCx dd cy sa p s m args meth c k → meth.sig.returnType = (xE k).2.2.2.1 → meth.locks = false → Zs s → (d ≤ R.frames ∧ 42 * d ≤ R.locals) → s.heap.size = z + n0 → n0 ≤ mN σ → u0 ≤ mU σ → (mN σ' - n0 ≤ R.cells ∧ mU σ' - u0 ≤ R.slots) →
      xG p l e R s m args below meth c (MQ below (xQ dd cy z sa Zs r σ') args s (mN σ' - n0) (mU σ' - u0) (fun q => z ≤ q)) dd cy z sa n0 u0 pc ls st σ := by
  intro n
  induction n with
  | zero => intro d k pc ls st σ r σ' h; cases h
  | succ n ih =>
    intro d k pc ls st σ r σ' h p e R s m args below meth c n0 u0 C hret hlocks hZs hR hz h0 h0u hcap
    unfold xex at h
    split at h
    · cases h
    · rename_i en hcode
      obtain ⟨hokE, hpc, hk⟩ := x_code hcode
      obtain ⟨pc0, i, len, rn, ri, rl⟩ := en
      simp only at hpc
      subst hpc
      simp only [xokE, Bool.and_eq_true, decide_eq_true_eq, Bool.or_eq_true, beq_iff_eq] at hokE
      obtain ⟨⟨hdg, hlen⟩, hok⟩ := hokE
      simp only at h
      split at h
      · rename_i x hs
        have hm1 := xstep_mono hs
        have hm2 := xex_mono hpm _ _ _ _ _ _ _ _ h
        simp only at hm2
        exact x_step i p l e R s m args below meth c _ dd cy z sa n0 u0 k d pc0 len rn ri rl ls st σ x.1 x.2.1 x.2.2.1 x.2.2.2 C hR hz ⟨by omega, by omega⟩ hdg hlen hok hs (ih _ _ _ _ _ _ _ _ h p e R s m args below meth c n0 u0 C hret hlocks hZs hR hz (by omega) (by omega) hcap)
      · rename_i hns
        split at h
        · rename_i r0 hrt
          cases h
          exact x_ret hZst C hret hlocks hZs hz hdg hlen hrt
        · split at h
          · cases h
          · rename_i ar har
            split at h
            · cases h
            · rename_i d'
              rw [Bool.cond_eq_ite] at h
              split at h
              · rename_i hc
                simp only [Bool.and_eq_true] at hc
                split at h
                · rename_i y hy
                  have hrn : rn < 274 := by
                    have := hc.2
                    rwa [Nat.blt_eq] at this
                  have hm2 := xex_mono hpm _ _ _ _ _ _ _ _ h
                  simp only at hm2
                  have hM : (mN σ ≤ mN y.2 ∧ mU σ ≤ mU y.2) ∧ xMetP l dd cy z sa Zs d' rn ar.1 σ y.1 y.2 := by
                    split at hy
                    · rename_i hp
                      cases hy
                      exact ⟨hpm _ _ _ _ _ hp, hprim _ _ _ _ _ hp⟩
                    · exact ⟨xex_mono hpm _ _ _ _ _ _ _ _ hy, x_metOf hrn (Nat.le_of_ble_eq_true hc.1.2) (ih _ _ _ _ _ _ _ _ hy)⟩
                  exact x_call hZst C hZs hR hz ⟨by omega, by omega⟩ hM.1 hdg hlen hok har hns hc.1.1 hrn hM.2 (ih _ _ _ _ _ _ _ _ h p e R s m args below meth c n0 u0 C hret hlocks hZs hR hz (by omega) (by omega) hcap)
                · cases h
              · cases h
/-- a run of a method: its contract -/
theorem x_run {l : Launch} {dd : va_G} {cy : Nat → ClassId} {z : Nat} {sa : UInt32 → Nat} {Zs : State → Prop} {prim : Nat → Nat → List Value → xM → Option (Option Value × xM)} (hZst : xZst z Zs) (hpm : xpm prim) (hprim : ∀ (d k : Nat) (as : List Value) (σ : xM) (y : Option Value × xM), prim d k as σ = some y → xMetP l dd cy z sa Zs d k as σ y.1 y.2)
    {n d k : Nat} {as : List Value} {σ : xM} {r : Option Value} {σ' : xM} (hk : k < 274) (hfl : (xflat as).length ≤ (xE k).2.2.1) (h : xex prim n d k 0 (xent as (xE k).2.2.1) [] σ = some (r, σ')) : xMetP l dd cy z sa Zs d k as σ r σ' :=
  x_metOf hk hfl (x_sound hZst hpm hprim n d k 0 _ _ _ _ _ h)
