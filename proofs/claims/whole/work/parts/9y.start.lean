/-! the law's start: what the Statement gives -/
def tmI : List Nat := [134, 191, 196, 136, 138, 140, 142, 144, 146, 204, 206, 208, 210, 212, 214, 253, 258]
def tmS (i : Nat) : Term := .string "LastAskedModel" (tmI.getD i 0)
abbrev flN : List Cond := flatC (Jvm.Cond.and given_1 narrow_1)
theorem nv_len : ∀ i : Nat, i < 17 → jLen.getD i 0 < 2 ^ 31 := by decide +kernel
set_option maxRecDepth 100000 in
theorem nv_ex : ∀ i : Nat, i < 17 → Cond.exactly (tmS i) "java/lang/String" ∈ flN := by decide +kernel
set_option maxRecDepth 100000 in
theorem nv_co : ∀ i : Nat, i < 17 → Cond.eq (.field (tmS i) "java/lang/String" "coder" "B") (.int 0) ∈ flN := by decide +kernel
set_option maxRecDepth 100000 in
theorem nv_ar : ∀ i : Nat, i < 17 → Cond.arrayOf (.field (tmS i) "java/lang/String" "value" "[B") .byte ∈ flN := by decide +kernel
set_option maxRecDepth 100000 in
theorem nv_le : ∀ i : Nat, i < 17 → Cond.eq (.length (.field (tmS i) "java/lang/String" "value" "[B")) (.int (Int32.ofNat (jLen.getD i 0))) ∈ flN := by decide +kernel
set_option maxRecDepth 100000 in
theorem nv_el : ∀ i : Nat, i < 17 → ∀ j : Nat, j < jLen.getD i 0 → Cond.eq (.elem (.field (tmS i) "java/lang/String" "value" "[B") (.int (Int32.ofNat j))) (.int ((jByt.getD i []).getD j 0)) ∈ flN := by decide +kernel
def nvP : List (Nat × Nat) := [(0, 1), (0, 2), (1, 2), (0, 3), (1, 3), (2, 3), (0, 4), (1, 4), (2, 4), (3, 4), (0, 5), (1, 5), (2, 5), (3, 5), (4, 5), (0, 6), (1, 6), (2, 6), (3, 6), (4, 6), (5, 6), (0, 7), (1, 7), (2, 7), (3, 7), (4, 7), (5, 7), (6, 7), (0, 8), (1, 8), (2, 8), (3, 8), (4, 8), (5, 8), (6, 8), (7, 8), (0, 9), (1, 9), (2, 9), (3, 9), (4, 9), (5, 9), (6, 9), (7, 9), (8, 9), (0, 10), (1, 10), (2, 10), (3, 10), (4, 10), (5, 10), (6, 10), (7, 10), (8, 10), (9, 10), (0, 11), (1, 11), (2, 11), (3, 11), (4, 11), (5, 11), (6, 11), (7, 11), (8, 11), (9, 11), (10, 11), (0, 12), (1, 12), (2, 12), (3, 12), (4, 12), (5, 12), (6, 12), (7, 12), (8, 12), (9, 12), (10, 12), (11, 12), (0, 13), (1, 13), (2, 13), (3, 13), (4, 13), (5, 13), (6, 13), (7, 13), (8, 13), (9, 13), (10, 13), (11, 13), (12, 13), (0, 14), (1, 14), (2, 14), (3, 14), (4, 14), (5, 14), (6, 14), (7, 14), (8, 14), (9, 14), (10, 14), (11, 14), (12, 14), (13, 14), (0, 15), (1, 15), (2, 15), (3, 15), (4, 15), (5, 15), (6, 15), (7, 15), (8, 15), (9, 15), (10, 15), (11, 15), (12, 15), (13, 15), (14, 15), (0, 16), (1, 16), (2, 16), (3, 16), (4, 16), (5, 16), (6, 16), (7, 16), (8, 16), (9, 16), (10, 16), (11, 16), (12, 16), (13, 16), (14, 16), (15, 16)]
def nvC (q : Nat × Nat) : Cond := Cond.not (Cond.eq (tmS q.1) (tmS q.2))
set_option maxRecDepth 100000 in
theorem nv_P : ∀ w ∈ nvP.map nvC, w ∈ flN := x_mem (nvP.map nvC) [37, 47, 48, 59, 60, 61, 70, 71, 72, 73, 83, 84, 85, 86, 87, 97, 98, 99, 100, 101, 102, 111, 112, 113, 114, 115, 116, 117, 125, 126, 127, 128, 129, 130, 131, 132, 142, 143, 144, 145, 146, 147, 148, 149, 150, 159, 160, 161, 162, 163, 164, 165, 166, 167, 168, 179, 180, 181, 182, 183, 184, 185, 186, 187, 188, 189, 200, 201, 202, 203, 204, 205, 206, 207, 208, 209, 210, 211, 219, 220, 221, 222, 223, 224, 225, 226, 227, 228, 229, 230, 231, 240, 241, 242, 243, 244, 245, 246, 247, 248, 249, 250, 251, 252, 253, 260, 261, 262, 263, 264, 265, 266, 267, 268, 269, 270, 271, 272, 273, 274, 283, 284, 285, 286, 287, 288, 289, 290, 291, 292, 293, 294, 295, 296, 297, 298] (by decide +kernel)
theorem nv_ab : ∀ i : Nat, i < 17 → ∀ j : Nat, j < 17 → (i == j || (nvP.contains (i, j) || nvP.contains (j, i))) = true := by decide +kernel
theorem nv_all (i : Nat) (hi : i < 17) (j : Nat) (hj : j < 17) (h : i ≠ j) : (i, j) ∈ nvP ∨ (j, i) ∈ nvP := by
  have h1 := nv_ab i hi j hj
  rw [Bool.or_eq_true, Bool.or_eq_true] at h1
  rcases h1 with h1 | h1 | h1
  · exact absurd (eq_of_beq h1) h
  · exact Or.inl (List.contains_iff_mem.mp h1)
  · exact Or.inr (List.contains_iff_mem.mp h1)
theorem nv_ne (i : Nat) (hi : i < 17) (j : Nat) (hj : j < 17) (h : i ≠ j) : Cond.not (Cond.eq (tmS i) (tmS j)) ∈ flN ∨ Cond.not (Cond.eq (tmS j) (tmS i)) ∈ flN := (nv_all i hi j hj h).imp (fun h => nv_P _ (List.mem_map_of_mem (f := nvC) h)) (fun h => nv_P _ (List.mem_map_of_mem (f := nvC) h))
set_option maxRecDepth 100000 in
theorem nv_st : Cond.eq (.static "java/lang/String" "COMPACT_STRINGS" "Z") (.int 1) ∈ flN ∧ Cond.isRef (.static "jdk/internal/util/Preconditions" "SIOOBE_FORMATTER" "Ljava/util/function/BiFunction;") ∈ flN ∧ Cond.isRef (.static Bundle.tN "UNASSIGNED_STACK" Bundle.steD) ∈ flN ∧ Cond.isRef (.static Bundle.tN "SUPPRESSED_SENTINEL" Bundle.listD) ∈ flN := by decide +kernel
set_option maxRecDepth 30000 in
theorem tb_c : Cond.laysStatic "java/lang/String" "COMPACT_STRINGS" "Z" ∈ lw_tbl := x_t 1232 rfl
set_option maxRecDepth 30000 in
theorem tb_f : Cond.laysStatic "jdk/internal/util/Preconditions" "SIOOBE_FORMATTER" "Ljava/util/function/BiFunction;" ∈ lw_tbl := x_t 1248 rfl
set_option maxRecDepth 30000 in
theorem tb_u : Cond.laysStatic Bundle.tN "UNASSIGNED_STACK" Bundle.steD ∈ lw_tbl := x_t 954 rfl
set_option maxRecDepth 30000 in
theorem tb_s : Cond.laysStatic Bundle.tN "SUPPRESSED_SENTINEL" Bundle.listD ∈ lw_tbl := x_t 956 rfl
set_option maxRecDepth 30000 in
theorem tb_t : Cond.initialized Bundle.tN ∈ lw_tbl := x_t 17 rfl
set_option maxRecDepth 30000 in
theorem tb_S : Cond.initialized "java/lang/String" ∈ lw_tbl := x_t 13 rfl
set_option maxRecDepth 30000 in
theorem tb_P : Cond.initialized "jdk/internal/util/Preconditions" ∈ lw_tbl := x_t 15 rfl
set_option maxRecDepth 30000 in
theorem tb_n : Cond.instantiable "java/util/NoSuchElementException" 6 ∈ lw_tbl := x_t 928 rfl
set_option maxRecDepth 30000 in
theorem tb_o : Cond.arrayOver (.object "LastAsked$State") ∈ lw_tbl := x_t 221 rfl
set_option maxRecDepth 30000 in
theorem tb_jN : ∀ w ∈ jN, w ∈ lw_tbl := by decide +kernel
theorem st_arr {args : Array Value} {s : State} {ty : FieldType} (h : (Cond.arrayClass ty).before args s = true) : ∃ cA : ClassId, ArrOfT s cA ty ∧ s.vm.findClass ("[" ++ ty.toString) = some cA := by
  obtain ⟨c, k, comp, h1, h2, h3⟩ := Cond.arrayClass_spec h
  exact ⟨c, fun n z => ⟨fun k h => (by cases h), k, h2, comp, h3⟩, h1⟩
theorem st_K {args : Array Value} {s : State} (hts : ∀ w ∈ lw_tbl, w.before args s = true) : ∃ (dd : va_G) (cy : Nat → ClassId), va_K dd vwC2 (xty cy) s := by
  obtain ⟨cE, iE, hE⟩ := u_known (C := "java/util/NoSuchElementException") (T := TX0) (N := 0) (n := 6) hts (fun w hw => by cases hw) (hts _ tb_n)
  have h : ∀ c : Nat, ∃ q : ClassId × (Nat → Nat), ∀ r, vwC2[c]? = some r → u_Kn s r.1 r.2.1 r.2.2 q.1 q.2 := by
    intro c
    by_cases hc : c < 10
    · obtain ⟨k0, k2, k3, -⟩ := x_kc c hc
      have hR0 : (xkC c).1 = xR c := by
        rcases (show c = 0 ∨ c = 1 ∨ c = 2 ∨ c = 3 ∨ c = 4 ∨ c = 5 ∨ c = 6 ∨ c = 7 ∨ c = 8 ∨ c = 9 by omega) with q | q | q | q | q | q | q | q | q | q <;> rw [q] <;> rfl
      obtain ⟨cC, iS, hK⟩ := u_known (C := (xkC c).1) (T := (xkC c).2.1) (N := (xkC c).2.2) (n := xNF c) hts k3 (hts _ (by rw [hR0]; exact (x_ins c hc).1))
      refine ⟨(cC, iS), fun r hr => ?_⟩
      rw [x_k2 k0] at hr
      cases hr
      exact hK
    · refine ⟨(cE, iE), fun r hr => ?_⟩
      have h11 : c < 11 := (List.getElem?_eq_some_iff.mp hr).1
      rw [show c = 10 by omega] at hr
      cases hr
      exact hE
  obtain ⟨f, hf⟩ := Classical.axiomOfChoice h
  obtain ⟨cB, b1, b2⟩ := st_arr (hts _ x_arrB)
  obtain ⟨cI, i1, i2⟩ := st_arr (hts _ x_arrI)
  obtain ⟨cJ, j1, j2⟩ := st_arr (hts _ x_arrJ)
  obtain ⟨comp, cO, kO, o1, o2, o3, o4, o5⟩ := Cond.arrayOver_spec (hts _ tb_o)
  refine ⟨(fun c => (f c).1, fun c => (f c).2), fun k => if k = 10 then cB else if k = 11 then cI else if k = 12 then cJ else cO, fun c q hq => hf c q hq, fun k q hk => ?_⟩
  match k, hk with
  | 0, hk => cases hk; exact ⟨b1, b2⟩
  | 1, hk => cases hk; exact ⟨i1, i2⟩
  | 2, hk => cases hk; exact ⟨j1, j2⟩
  | 3, hk => cases hk; exact ⟨fun n z => ⟨fun k h => (by cases h), kO, o3, comp, o4⟩, kO, comp, o3, o4, o1, o5⟩
  | k + 4, hk => simp [xty] at hk
theorem st_Z {b : Nat} {s : State} (hts : ∀ w ∈ lw_tbl, w.before #[Value.ref b] s = true) (hgv : (Jvm.Cond.and given_1 narrow_1).before #[Value.ref b] s = true) : ∃ (sa : UInt32 → Nat) (av : Nat → Nat), xZ sa s ∧ jZ s.heap.size sa av s := by
  have hf := flat_of_before _ hgv
  have hA : ∀ a : Nat, a < s.heap.size → ¬ (fun q => s.heap.size ≤ q) a := fun a h => Nat.not_le.mpr h
  obtain ⟨adK, adV, hS, hT⟩ := vk_Sof (N := 17) (tm := tmS) (len := jLen) (byt := jByt) (A := fun q => s.heap.size ≤ q) nv_len (fun i hi => hf _ (nv_ex i hi)) (fun i hi => hf _ (nv_co i hi)) (fun i hi => hf _ (nv_ar i hi)) (fun i hi => hf _ (nv_le i hi)) (fun i hi j hj => hf _ (nv_el i hi j hj)) (fun i j hi hj hij => (nv_ne i hi j hj hij).imp (hf _) (hf _)) hA
  have hto : ∀ i, i < 17 → (UInt32.ofNat i).toNat = i := by decide +kernel
  refine ⟨fun x => adK x.toNat, adV, ⟨fun e he => va_Nw.of rfl (hts _ (x_fn he)), fun e he => va_Nw.of rfl (hts _ (x_vn he)), va_AO.of (hts _ tb_o), fun e he => ?_⟩, ?_, va_Zof (hts _ tb_c) (hts _ tb_S) (va_eqt (hf _ nv_st.1)) hA, va_Zqof (hts _ tb_f) (hts _ tb_P) (hf _ nv_st.2.1) hA, vx_Zqof (hts _ tb_u) (hts _ tb_t) (hf _ nv_st.2.2.1) hA, vx_Zqof (hts _ tb_s) (hts _ tb_t) (hf _ nv_st.2.2.2) hA, fun w hw => ?_⟩
  · have hq : ∀ e ∈ xKS, e.2.2 < 17 ∧ xR e.1 = "LastAskedModel" ∧ e.2.1 = tmI.getD e.2.2 0 := by decide +kernel
    obtain ⟨q1, q2, q3⟩ := hq e he
    have h1 : (Cond.stringRef (xR e.1) e.2.1 (xStr.getD e.2.2 "")).before #[Value.ref b] s = true := hts _ (x_ks he)
    refine vk_R.of h1 ?_
    have h2 := hT e.2.2 q1
    unfold tmS at h2
    rw [q2, q3]
    show _ = some (Value.ref (adK (UInt32.ofNat e.2.2).toNat))
    rw [hto _ q1]
    exact h2
  · have e1 : vk_S 17 jLen jByt (fun i => adK (UInt32.ofNat i).toNat) adV (fun q => s.heap.size ≤ q) s s.heap := by
      refine ⟨fun i hi => ?_, fun i j hi hj h => ?_⟩
      · have := hS.1 i hi
        have h2 : (fun i => adK (UInt32.ofNat i).toNat) i = adK i := by
          show adK (UInt32.ofNat i).toNat = _
          rw [hto i hi]
        rw [h2]
        exact this
      · have h : adK (UInt32.ofNat i).toNat = adK (UInt32.ofNat j).toNat := h
        rw [hto i hi, hto j hj] at h
        exact hS.2 i j hi hj h
    exact e1
  · have h1 := List.all_eq_true.mp jN_ok w hw
    rw [Bool.and_eq_true] at h1
    exact va_tabs h1.2 rfl (hts w (tb_jN w hw))
