/-! THE LAW: its code as a table; rows of its walk -/
def GC (p : Program) (l : Launch) (s : State) (m : MethodId) (c : Code) (dd : va_G) (cy : Nat → ClassId) (z : Nat) (sa : UInt32 → Nat) (av : Nat → Nat) (b L : Nat) (xs : Nat → Int32) : Prop :=
  gCx dd cy z sa av 0 p s m #[.ref b] c "LastAskedLaw" code 7 ∧ va_X b L xs s s.heap ∧ b < s.heap.size ∧ l.stackTraces = false ∧ L ≤ 3072
def lW (p : Program) (l : Launch) (e : Env) (s : State) (m : MethodId) (below : List Frame) (meth : Method) (c : Code) (Q : State → Prop) (dd : va_G) (cy : Nat → ClassId) (z : Nat) (sa : UInt32 → Nat) (b : Nat) (ex : List (Nat × Value)) (i : Int32) (pc : Nat) (st : List Value) (σ : xM) : Prop :=
  ∀ (ls : Array Slot) (H : Heap) (locs : List Loc), lv_has ls 7 ([(4, .int i), (3, .ref (z + 115)), (2, .ref (z + 102)), (1, .ref (z + 0)), (0, .ref b)] ++ ex) → va_P dd vwC2 (xW cy (xad z sa) σ) H → va_S (fun q => z ≤ q) s.heap H locs → W p l e room_1 s m #[.ref b] below meth c H locs (mN σ) (mU σ) Q (F0 m pc ls st)
def gB (x : Int32) : Int32 := if x = 0 then 0 else 1
def gO (σ : xM) : Prop := 115 < mN σ ∧ mK σ 115 = 12 ∧ mL σ 115 = 1
def gN (σ υ : xM) : Prop := Wd υ ∧ gO υ ∧ mN υ ≤ mN σ + 12 ∧ mU υ ≤ mU σ + 98
theorem Rn_mono {d k pc : Nat} {ls st : List Value} {σ : xM} {y : Option Value × xM} (h : Rn d k pc ls st σ y) : mN σ ≤ mN y.2 ∧ mU σ ≤ mU y.2 := by
  obtain ⟨n, h⟩ := h
  exact xex_mono xprim_pm n _ _ _ _ _ _ _ h
theorem Wd_sh {σ : xM} (h : Wd σ) : Sh σ := by
  obtain ⟨C, s, ps, na, im, ni, n, f, r, ft, wh, hC, hM, hO⟩ := h
  exact hC.1.1
theorem g_pair {σ τ υ : xM} {d1 d2 k1 k2 : Nat} {ls1 ls2 : List Value} {v1 v2 : Option Value} (hW : Wd σ) (hO : gO σ) (r1 : Rn d1 k1 0 ls1 [] σ (v1, τ)) (r2 : Rn d2 k2 0 ls2 [] τ (v2, υ)) (hN1 : mN τ = mN σ ∧ mU τ = mU σ) (hN2 : mN τ ≤ mN υ ∧ mN υ ≤ mN τ + 11 ∧ mU υ ≤ mU τ + 98) (hW2 : Wd υ) :
    (mN σ ≤ mN τ ∧ mU σ ≤ mU τ) ∧ (mN τ ≤ mN υ ∧ mU τ ≤ mU υ) ∧ (0 < mN σ ∧ mK σ 0 = 7) ∧ (102 < mN τ ∧ mK τ 102 = 9) ∧ gN σ υ := by
  have m1 := Rn_mono r1
  have m2 := Rn_mono r2
  have k1 := Rn_kl r1
  have k2 := Rn_kl r2
  have hS := Wd_sh hW
  have h115 := hS.1
  have hK0 : mK σ 0 = 7 := sh_k hS (by decide)
  have hK2 : mK σ 102 = 9 := sh_k hS (by decide)
  simp only at m1 m2 k1 k2
  obtain ⟨o1, o2, o3⟩ := hO
  have q1 := k1.2 115 o1
  have q2 := k2.2 115 (by omega)
  refine ⟨m1, m2, ⟨by omega, hK0⟩, ⟨by omega, (k1.2 102 (by omega)).1.trans hK2⟩, hW2, ⟨by omega, q2.1.trans (q1.1.trans o2), q2.2.trans (q1.2.trans o3)⟩, by omega, by omega⟩
section LW
variable {p : Program} {l : Launch} {e : Env} {s : State} {m : MethodId} {below : List Frame} {meth : Method} {c : Code} {Q : State → Prop} {dd : va_G} {cy : Nat → ClassId} {z : Nat} {sa : UInt32 → Nat} {av : Nat → Nat} {b L : Nat} {xs : Nat → Int32} {i : Int32} {pc j : Nat} {st : List Value} {σ σ1 : xM} {ex : List (Nat × Value)}
theorem g_al1 (C : GC p l s m c dd cy z sa av b L xs) (hdg : decode code pc = .ok (.aload_n 1, 1)) (k : lW p l e s m below meth c Q dd cy z sa b ex i (pc + 1) (.ref (z + 0) :: st) σ) : lW p l e s m below meth c Q dd cy z sa b ex i pc st σ := fun ls H locs hl hP hS => lv_aload_n C.1.1 C.1.2.1 (i := 1) hdg rfl (lv_at hl 3 rfl) (k ls H locs hl hP hS)
theorem g_al2 (C : GC p l s m c dd cy z sa av b L xs) (hdg : decode code pc = .ok (.aload_n 2, 1)) (k : lW p l e s m below meth c Q dd cy z sa b ex i (pc + 1) (.ref (z + 102) :: st) σ) : lW p l e s m below meth c Q dd cy z sa b ex i pc st σ := fun ls H locs hl hP hS => lv_aload_n C.1.1 C.1.2.1 (i := 2) hdg rfl (lv_at hl 2 rfl) (k ls H locs hl hP hS)
theorem g_al3 (C : GC p l s m c dd cy z sa av b L xs) (hdg : decode code pc = .ok (.aload_n 3, 1)) (k : lW p l e s m below meth c Q dd cy z sa b ex i (pc + 1) (.ref (z + 115) :: st) σ) : lW p l e s m below meth c Q dd cy z sa b ex i pc st σ := fun ls H locs hl hP hS => lv_aload_n C.1.1 C.1.2.1 (i := 3) hdg rfl (lv_at hl 1 rfl) (k ls H locs hl hP hS)
theorem nI_ad (j k : Nat) : nI j + nI k = nI (j + k) := (Int32.ofNat_add j k).symm
theorem g_arg {k : Nat} {kI : Int} (C : GC p l s m c dd cy z sa av b L xs) (hk : j + k < L) (hkI : Int32.ofInt kI = nI k) (d0 : decode code pc = .ok (.aload_n 0, 1)) (d1 : decode code (pc + 1) = .ok (.iload 4, 2)) (d2 : decode code (pc + 1 + 2) = .ok (.iconst kI, 1)) (d3 : decode code (pc + 1 + 2 + 1) = .ok (.iadd, 1)) (d4 : decode code (pc + 1 + 2 + 1 + 1) = .ok (.iaload, 1))
    (kk : lW p l e s m below meth c Q dd cy z sa b ex (nI j) (pc + 6) (.int (xs (j + k)) :: st) σ) : lW p l e s m below meth c Q dd cy z sa b ex (nI j) pc st σ := by
  obtain ⟨⟨hx, hb, hml, hown, hts, hK, hZ, hZs, hz⟩, hX, hbl, hlt, hL⟩ := C
  intro ls H locs hl hP hS
  refine lv_aload_n hx hb (i := 0) d0 rfl (lv_at hl 4 rfl) ?_
  refine lv_iload hx hb d1 (lv_at hl 0 rfl) ?_
  refine lv_iconst hx hb (v := nI k) d2 hkI ?_
  refine lv_iadd hx hb d3 ?_
  rw [nI_ad]
  have h := kk ls H locs hl hP hS
  refine va_sld hx hb hX hbl (fun h => by have h : z ≤ b := h; omega) hS (vp_in_nI hk (by omega)) d4 ?_
  rw [nI_clamp (by omega)]
  exact h
theorem g_bool {x : Int32} (C : GC p l s m c dd cy z sa av b L xs) (d0 : decode code pc = .ok (.ifCond .eq 7, 3)) (d1 : decode code (pc + 3) = .ok (.iconst 1, 1)) (d2 : decode code (pc + 3 + 1) = .ok (.goto 4, 3)) (d3 : decode code (pc + 7) = .ok (.iconst 0, 1))
    (kk : lW p l e s m below meth c Q dd cy z sa b ex i (pc + 8) (.int (gB x) :: st) σ) : lW p l e s m below meth c Q dd cy z sa b ex i pc (.int x :: st) σ := by
  obtain ⟨⟨hx, hb, -⟩, -⟩ := C
  intro ls H locs hl hP hS
  have h := kk ls H locs hl hP hS
  unfold gB at h
  refine lv_if_eq hx hb (tgt := pc + 7) d0 (by omega) (fun h0 => ?_) (fun h0 => ?_)
  · rw [if_pos h0] at h
    exact lv_iconst hx hb (v := 0) d3 (by decide) h
  · rw [if_neg h0] at h
    refine lv_iconst hx hb (v := 1) d1 (by decide) ?_
    exact lv_goto hx hb (tgt := pc + 8) d2 (by omega) h
theorem g_vc {rn ix a o : Nat} {as : List Value} {r1 : Option Value} (C : GC p l s m c dd cy z sa av b L xs) (hrn : rn < 274) (hml : (xE rn).2.2.1 ≤ 33) (hmono : mN σ ≤ mN σ1 ∧ mU σ ≤ mU σ1) (hcap : mN σ1 ≤ 601024 ∧ mU σ1 ≤ 7293034) (hM : xMetP l dd cy z sa (jZ z sa av) 13 rn (.ref a :: as) σ r1 σ1)
    (hE : (xE rn).2.2.2.2.2.2 = false ∧ (xE rn).1.name ≠ "<init>" ∧ (xE rn).2.2.2.2.1 = o ∧ o < 10 ∧ (xE rn).2.2.2.2.2.1 = as.length + 1) (ha : a < mN σ ∧ mK σ a = o) (hlk : Cond.methodLink "LastAskedLaw" ix (xE rn).1 ∈ xTs) (hroom : (st.map fun v => v.category).sum ≤ 8) (hdg : decode code pc = .ok (.invokevirtual ix, 3))
    (kk : lW p l e s m below meth c Q dd cy z sa b ex i (pc + 3) ((r1.map (xv (xad z sa))).toList ++ st) σ1) : lW p l e s m below meth c Q dd cy z sa b ex i pc ((as.map (xv (xad z sa))).reverse ++ .ref (z + a) :: st) σ := by
  intro ls H locs hl hP hS
  exact g_call (n0 := 0) (u0 := 0) (σ := σ) (σ1 := σ1) C.1 hl.1 hrn ⟨by show 13 + 1 ≤ 16; decide, by show 8 + ((xE rn).2.2.1 + 11) + 42 * 13 ≤ 598; omega⟩ ⟨Nat.zero_le _, Nat.zero_le _⟩ hmono hcap hM hE ha hlk hroom hdg hP hS (fun H1 locs1 b1 b3 => kk ls H1 locs1 hl b1 b3)
theorem g_eqi {x : Int32} {off : Int} (C : GC p l s m c dd cy z sa av b L xs) (hdg : decode code pc = .ok (.if_icmp .eq off, 3)) (ht : (pc : Int) + off = ((1874 : Nat) : Int)) (k : lW p l e s m below meth c Q dd cy z sa b ex i 1874 st σ) : lW p l e s m below meth c Q dd cy z sa b ex i pc (.int x :: .int x :: st) σ := fun ls H locs hl hP hS => lv_icmp_eq C.1.1 C.1.2.1 hdg ht (fun _ => k ls H locs hl hP hS) (fun h => absurd rfl h)
theorem lg_rf (x : Int64) : lg_cmp x x = 0 := by
  unfold lg_cmp
  simp
theorem g_eql {x : Int64} {off : Int} (C : GC p l s m c dd cy z sa av b L xs) (h0 : decode code pc = .ok (.lcmp, 1)) (hdg : decode code (pc + 1) = .ok (.ifCond .eq off, 3)) (ht : ((pc + 1 : Nat) : Int) + off = ((1874 : Nat) : Int)) (k : lW p l e s m below meth c Q dd cy z sa b ex i 1874 st σ) : lW p l e s m below meth c Q dd cy z sa b ex i pc (.long x :: .long x :: st) σ := fun ls H locs hl hP hS => W.lcmp C.1.1 C.1.2.1 h0 (lv_if_eq C.1.1 C.1.2.1 hdg ht (fun _ => k ls H locs hl hP hS) (fun h => absurd (lg_rf x) h))
end LW
