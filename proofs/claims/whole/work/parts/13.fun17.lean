noncomputable def f237_59 (s0 : Int32) (σ : xM) : Option (Int32 × xM) :=
  some (s0, σ)
set_option maxRecDepth 20000 in
set_option maxHeartbeats 1000000 in
theorem e237_59 (d : Nat) (s0 : Int32) (x0 x1 x2 : Value) (σ : xM) (y : Int32 × xM) (h : f237_59 s0 σ = some y) : Rn (d + 0) 237 59 [x0, x1, x2] [.int s0] σ (some (.int y.1), y.2) := by
  unfold f237_59 at h
  cases h
  exact rn_ret rfl rfl rfl
/-- LastAskedModel.low(I)I -/
noncomputable def f237 (l0 : Nat) (l1 : Int32) (σ : xM) : Option (Int32 × xM) :=
  (gR σ l0 9 3).bind fun r1 =>
  (gR σ r1 8 12).bind fun r2 =>
  (gR σ l0 9 3).bind fun r3 =>
  (gR σ r3 8 13).bind fun r4 =>
  (aI σ r4 l1).bind fun v5 =>
  (gR σ l0 9 3).bind fun r6 =>
  (gR σ r6 8 14).bind fun r7 =>
  (aI σ r7 l1).bind fun v8 =>
  (aI σ r2 ((6 * v5) + v8)).bind fun v9 =>
  (gR σ l0 9 3).bind fun r10 =>
  (gR σ r10 8 15).bind fun r11 =>
  (aI σ r11 l1).bind fun v12 =>
  if v9 ≤ v12 then
  f237_59 0 σ
  else
  (gR σ l0 9 3).bind fun r13 =>
  (gR σ r13 8 15).bind fun r14 =>
  (aI σ r14 l1).bind fun v15 =>
  f237_59 (v9 - v15) σ
set_option maxRecDepth 20000 in
set_option maxHeartbeats 1000000 in
theorem e237 (d : Nat) {l0 : Nat} {l1 : Int32} {σ : xM} {y : Int32 × xM} (h : f237 l0 l1 σ = some y) : Rn (d + 0) 237 0 [.ref l0, .int l1, .retAddr 0] [] σ (some (.int y.1), y.2) := by
  unfold f237 at h
  refine rn_steps 1 1 [.ref l0, .int l1, .retAddr 0] [.ref l0] rfl ?_
  obtain ⟨r1, hr1, h⟩ := Option.bind_eq_some_iff.mp h
  refine rn_gR (c := 9) (f := 3) rfl rfl ⟨⟨rfl, rfl⟩, rfl⟩ hr1 ?_
  refine rn_steps 0 4 [.ref l0, .int l1, .retAddr 0] [.ref r1] rfl ?_
  obtain ⟨r2, hr2, h⟩ := Option.bind_eq_some_iff.mp h
  refine rn_gR (c := 8) (f := 12) rfl rfl ⟨⟨rfl, rfl⟩, rfl⟩ hr2 ?_
  refine rn_steps 2 10 [.ref l0, .int l1, .retAddr 0] [.ref l0, .int 6, .ref r2] rfl ?_
  obtain ⟨r3, hr3, h⟩ := Option.bind_eq_some_iff.mp h
  refine rn_gR (c := 9) (f := 3) rfl rfl ⟨⟨rfl, rfl⟩, rfl⟩ hr3 ?_
  refine rn_steps 0 13 [.ref l0, .int l1, .retAddr 0] [.ref r3, .int 6, .ref r2] rfl ?_
  obtain ⟨r4, hr4, h⟩ := Option.bind_eq_some_iff.mp h
  refine rn_gR (c := 8) (f := 13) rfl rfl ⟨⟨rfl, rfl⟩, rfl⟩ hr4 ?_
  refine rn_steps 1 17 [.ref l0, .int l1, .retAddr 0] [.int l1, .ref r4, .int 6, .ref r2] rfl ?_
  obtain ⟨v5, hv5, h⟩ := Option.bind_eq_some_iff.mp h
  refine rn_aI rfl hv5 ?_
  refine rn_steps 2 20 [.ref l0, .int l1, .retAddr 0] [.ref l0, .int (6 * v5), .ref r2] rfl ?_
  obtain ⟨r6, hr6, h⟩ := Option.bind_eq_some_iff.mp h
  refine rn_gR (c := 9) (f := 3) rfl rfl ⟨⟨rfl, rfl⟩, rfl⟩ hr6 ?_
  refine rn_steps 0 23 [.ref l0, .int l1, .retAddr 0] [.ref r6, .int (6 * v5), .ref r2] rfl ?_
  obtain ⟨r7, hr7, h⟩ := Option.bind_eq_some_iff.mp h
  refine rn_gR (c := 8) (f := 14) rfl rfl ⟨⟨rfl, rfl⟩, rfl⟩ hr7 ?_
  refine rn_steps 1 27 [.ref l0, .int l1, .retAddr 0] [.int l1, .ref r7, .int (6 * v5), .ref r2] rfl ?_
  obtain ⟨v8, hv8, h⟩ := Option.bind_eq_some_iff.mp h
  refine rn_aI rfl hv8 ?_
  refine rn_steps 1 29 [.ref l0, .int l1, .retAddr 0] [.int ((6 * v5) + v8), .ref r2] rfl ?_
  obtain ⟨v9, hv9, h⟩ := Option.bind_eq_some_iff.mp h
  refine rn_aI rfl hv9 ?_
  refine rn_steps 3 33 [.ref l0, .int l1, .int v9] [.ref l0, .int v9] rfl ?_
  obtain ⟨r10, hr10, h⟩ := Option.bind_eq_some_iff.mp h
  refine rn_gR (c := 9) (f := 3) rfl rfl ⟨⟨rfl, rfl⟩, rfl⟩ hr10 ?_
  refine rn_steps 0 36 [.ref l0, .int l1, .int v9] [.ref r10, .int v9] rfl ?_
  obtain ⟨r11, hr11, h⟩ := Option.bind_eq_some_iff.mp h
  refine rn_gR (c := 8) (f := 15) rfl rfl ⟨⟨rfl, rfl⟩, rfl⟩ hr11 ?_
  refine rn_steps 1 40 [.ref l0, .int l1, .int v9] [.int l1, .ref r11, .int v9] rfl ?_
  obtain ⟨v12, hv12, h⟩ := Option.bind_eq_some_iff.mp h
  refine rn_aI rfl hv12 ?_
  refine rn_steps 0 41 [.ref l0, .int l1, .int v9] [.int v12, .int v9] rfl ?_
  refine rn_br (c := v9 ≤ v12) rfl rfl decide_eq_true_iff (fun hb => ?_) (fun hb => ?_)
  · rw [if_pos hb] at h
    refine rn_steps 1 59 [.ref l0, .int l1, .int v9] [.int 0] rfl ?_
    exact e237_59 d _ _ _ _ _ _ h
  · rw [if_neg hb] at h
    refine rn_steps 2 46 [.ref l0, .int l1, .int v9] [.ref l0, .int v9] rfl ?_
    obtain ⟨r13, hr13, h⟩ := Option.bind_eq_some_iff.mp h
    refine rn_gR (c := 9) (f := 3) rfl rfl ⟨⟨rfl, rfl⟩, rfl⟩ hr13 ?_
    refine rn_steps 0 49 [.ref l0, .int l1, .int v9] [.ref r13, .int v9] rfl ?_
    obtain ⟨r14, hr14, h⟩ := Option.bind_eq_some_iff.mp h
    refine rn_gR (c := 8) (f := 15) rfl rfl ⟨⟨rfl, rfl⟩, rfl⟩ hr14 ?_
    refine rn_steps 1 53 [.ref l0, .int l1, .int v9] [.int l1, .ref r14, .int v9] rfl ?_
    obtain ⟨v15, hv15, h⟩ := Option.bind_eq_some_iff.mp h
    refine rn_aI rfl hv15 ?_
    refine rn_steps 2 59 [.ref l0, .int l1, .int v9] [.int (v9 - v15)] rfl ?_
    exact e237_59 d _ _ _ _ _ _ h
/-- LastAskedModel.many(I)I -/
noncomputable def f238 (l0 : Nat) (l1 : Int32) (σ : xM) : Option (Int32 × xM) :=
  (gR σ l0 9 3).bind fun r1 =>
  (gR σ r1 8 12).bind fun r2 =>
  (gR σ l0 9 3).bind fun r3 =>
  (gR σ r3 8 13).bind fun r4 =>
  (aI σ r4 l1).bind fun v5 =>
  (gR σ l0 9 3).bind fun r6 =>
  (gR σ r6 8 14).bind fun r7 =>
  (aI σ r7 l1).bind fun v8 =>
  (aI σ r2 ((6 * v5) + v8)).bind fun v9 =>
  (gR σ l0 9 3).bind fun r10 =>
  (gR σ r10 8 15).bind fun r11 =>
  (aI σ r11 l1).bind fun v12 =>
  (cO σ l0 9).bind fun u14 =>
  (f237 l0 l1 σ).bind fun y13 =>
  some ((((v9 + v12) - y13.1) + 1), y13.2)
set_option maxRecDepth 20000 in
set_option maxHeartbeats 1000000 in
theorem e238 (d : Nat) {l0 : Nat} {l1 : Int32} {σ : xM} {y : Int32 × xM} (h : f238 l0 l1 σ = some y) : Rn (d + 1) 238 0 [.ref l0, .int l1] [] σ (some (.int y.1), y.2) := by
  unfold f238 at h
  refine rn_steps 1 1 [.ref l0, .int l1] [.ref l0] rfl ?_
  obtain ⟨r1, hr1, h⟩ := Option.bind_eq_some_iff.mp h
  refine rn_gR (c := 9) (f := 3) rfl rfl ⟨⟨rfl, rfl⟩, rfl⟩ hr1 ?_
  refine rn_steps 0 4 [.ref l0, .int l1] [.ref r1] rfl ?_
  obtain ⟨r2, hr2, h⟩ := Option.bind_eq_some_iff.mp h
  refine rn_gR (c := 8) (f := 12) rfl rfl ⟨⟨rfl, rfl⟩, rfl⟩ hr2 ?_
  refine rn_steps 2 10 [.ref l0, .int l1] [.ref l0, .int 6, .ref r2] rfl ?_
  obtain ⟨r3, hr3, h⟩ := Option.bind_eq_some_iff.mp h
  refine rn_gR (c := 9) (f := 3) rfl rfl ⟨⟨rfl, rfl⟩, rfl⟩ hr3 ?_
  refine rn_steps 0 13 [.ref l0, .int l1] [.ref r3, .int 6, .ref r2] rfl ?_
  obtain ⟨r4, hr4, h⟩ := Option.bind_eq_some_iff.mp h
  refine rn_gR (c := 8) (f := 13) rfl rfl ⟨⟨rfl, rfl⟩, rfl⟩ hr4 ?_
  refine rn_steps 1 17 [.ref l0, .int l1] [.int l1, .ref r4, .int 6, .ref r2] rfl ?_
  obtain ⟨v5, hv5, h⟩ := Option.bind_eq_some_iff.mp h
  refine rn_aI rfl hv5 ?_
  refine rn_steps 2 20 [.ref l0, .int l1] [.ref l0, .int (6 * v5), .ref r2] rfl ?_
  obtain ⟨r6, hr6, h⟩ := Option.bind_eq_some_iff.mp h
  refine rn_gR (c := 9) (f := 3) rfl rfl ⟨⟨rfl, rfl⟩, rfl⟩ hr6 ?_
  refine rn_steps 0 23 [.ref l0, .int l1] [.ref r6, .int (6 * v5), .ref r2] rfl ?_
  obtain ⟨r7, hr7, h⟩ := Option.bind_eq_some_iff.mp h
  refine rn_gR (c := 8) (f := 14) rfl rfl ⟨⟨rfl, rfl⟩, rfl⟩ hr7 ?_
  refine rn_steps 1 27 [.ref l0, .int l1] [.int l1, .ref r7, .int (6 * v5), .ref r2] rfl ?_
  obtain ⟨v8, hv8, h⟩ := Option.bind_eq_some_iff.mp h
  refine rn_aI rfl hv8 ?_
  refine rn_steps 1 29 [.ref l0, .int l1] [.int ((6 * v5) + v8), .ref r2] rfl ?_
  obtain ⟨v9, hv9, h⟩ := Option.bind_eq_some_iff.mp h
  refine rn_aI rfl hv9 ?_
  refine rn_steps 1 31 [.ref l0, .int l1] [.ref l0, .int v9] rfl ?_
  obtain ⟨r10, hr10, h⟩ := Option.bind_eq_some_iff.mp h
  refine rn_gR (c := 9) (f := 3) rfl rfl ⟨⟨rfl, rfl⟩, rfl⟩ hr10 ?_
  refine rn_steps 0 34 [.ref l0, .int l1] [.ref r10, .int v9] rfl ?_
  obtain ⟨r11, hr11, h⟩ := Option.bind_eq_some_iff.mp h
  refine rn_gR (c := 8) (f := 15) rfl rfl ⟨⟨rfl, rfl⟩, rfl⟩ hr11 ?_
  refine rn_steps 1 38 [.ref l0, .int l1] [.int l1, .ref r11, .int v9] rfl ?_
  obtain ⟨v12, hv12, h⟩ := Option.bind_eq_some_iff.mp h
  refine rn_aI rfl hv12 ?_
  refine rn_steps 3 42 [.ref l0, .int l1] [.int l1, .ref l0, .int (v9 + v12)] rfl ?_
  obtain ⟨u14, hu14, h⟩ := Option.bind_eq_some_iff.mp h
  obtain ⟨y13, hy13, h⟩ := Option.bind_eq_some_iff.mp h
  refine rn_callV [.int l1] rfl rfl ⟨rfl, rfl⟩ hu14 rfl rfl (e237 d hy13) ?_
  refine rn_steps 3 48 [.ref l0, .int l1] [.int (((v9 + v12) - y13.1) + 1)] rfl ?_
  cases h
  exact rn_ret rfl rfl rfl
