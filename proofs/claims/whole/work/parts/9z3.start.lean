/-! THE LAW: from its entry to its loop -/
theorem z_made {σ : xM} (h : xmade = some σ) : ∃ σ1, f63 0 (sNew xe0 7 0 (xNF 7)) = some σ1 ∧ f149 (mN σ1) (sNew σ1 9 0 (xNF 9)) = some σ := by
  unfold xmade at h
  obtain ⟨s0, h0, h⟩ := Option.bind_eq_some_iff.mp h
  obtain ⟨s1, h1, h⟩ := Option.bind_eq_some_iff.mp h
  obtain ⟨s2, h2, h⟩ := Option.bind_eq_some_iff.mp h
  cases h0
  cases h2
  exact ⟨s1, h1, h⟩
set_option maxRecDepth 100000 in
theorem z_102 : ((f63 0 (sNew xe0 7 0 (xNF 7))).map mN) = some 102 := by decide +kernel
theorem z_go (σ : xM) (h : mN σ = 115) : gO (sNew σ 12 1 1) := ⟨by show 115 < mN σ + 1; omega, by rw [mK_n, if_pos h.symm], by rw [mL_n, if_pos h.symm]⟩
theorem whole_start {p : Program} {e : Env} {s : State} {m : MethodId} {below : List Frame} {meth : Method} {c : Code} (l : Launch) (hlt : l.stackTraces = false) {b L : Nat} {xs : Nat → Int32} (hL : L ≤ 3072) (C0 : lw_At p s m meth c b L xs) : W p l e room_1 s m #[Value.ref b] below meth c s.heap [] 0 0 (lw_Z below #[Value.ref b] s) (entryFrame m ([Value.ref b] : List Value).toArray 7) := by
  obtain ⟨hx, hb, hr, hml, hown, hts, hX, hbl, hlocks, hgv⟩ := C0
  obtain ⟨dd, cy, hK⟩ := st_K hts
  obtain ⟨sa, av, hZ, hZs⟩ := st_Z hts hgv
  have G : gCx dd cy s.heap.size sa av 0 p s m #[Value.ref b] c "LastAskedLaw" code 7 := ⟨hx, hb, hml, hown, fun w hw => hts w (List.mem_filter.mp hw).1, hK, hZ, hZs, rfl⟩
  have C : GC p l s m c dd cy s.heap.size sa av b L xs := ⟨G, hX, hbl, hlt, hL⟩
  obtain ⟨σ, hσ, hW, hN, hU⟩ := first_W
  obtain ⟨σ1, q1, q2⟩ := z_made hσ
  have h102 : mN σ1 = 102 := by
    have h := z_102
    rw [q1] at h
    exact Option.some.inj h
  have r1 : Rn 13 63 0 [.ref 0] [] (sNew xe0 7 0 (xNF 7)) (none, σ1) := e63 10 q1
  have r2 : Rn 13 149 0 [.ref (mN σ1)] [] (sNew σ1 9 0 (xNF 9)) (none, σ) := e149 12 q2
  have m1 := Rn_mono r1
  have m2 := Rn_mono r2
  have m3 : mU σ1 + xNF 9 ≤ mU σ := m2.2
  have m4 : mN σ1 + 1 ≤ mN σ := m2.1
  have hl := lv_entry ([Value.ref b]) (n := 7) (Nat.le_of_ble_eq_true rfl)
  rw [lg_entry_eq]
  generalize (lg_sl ([Value.ref b]) ++ List.replicate (7 - (lg_sl ([Value.ref b])).length) Slot.unset).toArray = ls at hl ⊢
  have hl : lv_has ls 7 [(0, .ref b)] := hl
  have P0 : va_P dd vwC2 (xW cy (xad s.heap.size sa) xe0) s.heap := fun k q h => by
    have h : ([] : va_W)[k]? = some q := h
    simp at h
  have S0 : va_S (fun q => s.heap.size ≤ q) s.heap s.heap [] := va_S.rf
  have hrc : room_1.cells = 601024 ∧ room_1.slots = 7293034 := ⟨rfl, rfl⟩
  have hE1 : (xE 63).2.2.1 = 1 := rfl
  have hE2 : (xE 149).2.2.1 = 1 := rfl
  refine g_new (σ := xe0) (rn := 7) G (by decide) zl_8 ⟨by decide +kernel, by decide +kernel⟩ (ld0 0 rfl) P0 S0 (fun H1 P1 S1 => ?_)
  refine lv_dup hx hb (ld0 1 rfl) rfl ?_
  refine g_init (σ := sNew xe0 7 0 (xNF 7)) (σ1 := σ1) (d := 13) (rn := 63) (a := 0) G hl.1 (by decide) ⟨by show 13 + 1 ≤ 16; decide, by show 8 + ((xE 63).2.2.1 + 11) + 42 * 13 ≤ 598; omega⟩ m1 ⟨by omega, by omega⟩ (g_run (as := [.ref 0]) (by decide) (Nat.le_of_ble_eq_true rfl) r1) ⟨rfl, rfl, rfl⟩ zl_15 (Nat.le_of_ble_eq_true rfl) (ld0 2 rfl) P1 S1 (fun H2 locs2 P2 S2 => ?_)
  refine lv_astore_n hx hb (i := 1) (lv' := [(1, .ref (s.heap.size + 0)), (0, .ref b)]) (ld0 3 rfl) rfl hl (by decide) rfl (fun ls1 hl1 => ?_)
  refine g_new (σ := σ1) (rn := 9) G (by decide) zl_16 ⟨by omega, by omega⟩ (ld0 4 rfl) P2 S2 (fun H3 P3 S3 => ?_)
  refine lv_dup hx hb (ld0 5 rfl) rfl ?_
  refine g_init (σ := sNew σ1 9 0 (xNF 9)) (σ1 := σ) (d := 13) (rn := 149) (a := mN σ1) G hl1.1 (by decide) ⟨by show 13 + 1 ≤ 16; decide, by show 8 + ((xE 149).2.2.1 + 11) + 42 * 13 ≤ 598; omega⟩ m2 ⟨by omega, by omega⟩ (g_run (as := [.ref (mN σ1)]) (by decide) (Nat.le_of_ble_eq_true rfl) r2) ⟨rfl, rfl, rfl⟩ zl_18 (Nat.le_of_ble_eq_true rfl) (ld0 6 rfl) P3 S3 (fun H4 locs4 P4 S4 => ?_)
  refine lv_astore_n hx hb (i := 2) (lv' := [(2, .ref (s.heap.size + mN σ1)), (1, .ref (s.heap.size + 0)), (0, .ref b)]) (ld0 7 rfl) rfl hl1 (by decide) rfl (fun ls2 hl2 => ?_)
  refine lv_iconst hx hb (v := 1) (ld0 8 rfl) (by decide) ?_
  refine g_newJ (σ := σ) G ⟨by omega, by omega⟩ (ld0 9 rfl) P4 S4 (fun H5 P5 S5 => ?_)
  refine lv_astore_n hx hb (i := 3) (lv' := [(3, .ref (s.heap.size + mN σ)), (2, .ref (s.heap.size + mN σ1)), (1, .ref (s.heap.size + 0)), (0, .ref b)]) (ld0 10 rfl) rfl hl2 (by decide) rfl (fun ls3 hl3 => ?_)
  refine lv_iconst hx hb (v := nI (6 * 0)) (ld0 11 rfl) (by decide) ?_
  refine lv_istore hx hb (lv' := [(4, .int (nI (6 * 0))), (3, .ref (s.heap.size + mN σ)), (2, .ref (s.heap.size + mN σ1)), (1, .ref (s.heap.size + 0)), (0, .ref b)]) (ld0 12 rfl) hl3 (by decide) rfl (fun ls4 hl4 => ?_)
  rw [hN, h102] at hl4
  exact z_loop C hr hlocks 512 0 (sNew σ 12 1 1) (by omega) (by decide) (Wd_new hW) (z_go σ hN) (by show mN σ + 1 ≤ _; omega) (by show mU σ + 1 ≤ _; omega) ls4 H5 locs4 hl4 P5 S5
