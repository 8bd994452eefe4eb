noncomputable def f217_72 (l2 : Int64) (σ : xM) : Option (Int64 × xM) :=
  some (l2, σ)
set_option maxRecDepth 20000 in
set_option maxHeartbeats 1000000 in
theorem e217_72 (d : Nat) (l2 : Int64) (x0 x1 x4 : Value) (σ : xM) (y : Int64 × xM) (h : f217_72 l2 σ = some y) : Rn (d + 2) 217 72 [x0, x1, .long l2, .retAddr 1, x4] [] σ (some (.long y.1), y.2) := by
  unfold f217_72 at h
  refine rn_steps 1 73 [x0, x1, .long l2, .retAddr 1, x4] [.long l2] rfl ?_
  cases h
  exact rn_ret rfl rfl rfl
noncomputable def f217_66 (K5 : Nat → Int32 → Int64 → Int32 → xM → Option (Int64 × xM)) (l0 : Nat) (l1 : Int32) (l2 : Int64) (l4 : Int32) (σ : xM) : Option (Int64 × xM) :=
  K5 l0 l1 l2 (l4 + 1) σ
set_option maxRecDepth 20000 in
set_option maxHeartbeats 1000000 in
theorem e217_66 (d : Nat) (K5 : Nat → Int32 → Int64 → Int32 → xM → Option (Int64 × xM)) (hK5 : ∀ (l0 : Nat) (l1 : Int32) (l2 : Int64) (l4 : Int32) (σ : xM) (y : Int64 × xM), K5 l0 l1 l2 l4 σ = some y → Rn (d + 2) 217 5 [.ref l0, .int l1, .long l2, .retAddr 1, .int l4] [] σ (some (.long y.1), y.2)) (l0 : Nat) (l1 : Int32) (l2 : Int64) (l4 : Int32) (σ : xM) (y : Int64 × xM) (h : f217_66 K5 l0 l1 l2 l4 σ = some y) : Rn (d + 2) 217 66 [.ref l0, .int l1, .long l2, .retAddr 1, .int l4] [] σ (some (.long y.1), y.2) := by
  unfold f217_66 at h
  refine rn_steps 2 5 [.ref l0, .int l1, .long l2, .retAddr 1, .int (l4 + 1)] [] rfl ?_
  exact hK5 _ _ _ _ _ _ h
noncomputable def f217_64 (K5 : Nat → Int32 → Int64 → Int32 → xM → Option (Int64 × xM)) (l0 : Nat) (l1 : Int32) (l4 : Int32) (s0 : Int64) (s1 : Int64) (σ : xM) : Option (Int64 × xM) :=
  f217_66 K5 l0 l1 (s1 * s0) l4 σ
set_option maxRecDepth 20000 in
set_option maxHeartbeats 1000000 in
theorem e217_64 (d : Nat) (K5 : Nat → Int32 → Int64 → Int32 → xM → Option (Int64 × xM)) (hK5 : ∀ (l0 : Nat) (l1 : Int32) (l2 : Int64) (l4 : Int32) (σ : xM) (y : Int64 × xM), K5 l0 l1 l2 l4 σ = some y → Rn (d + 2) 217 5 [.ref l0, .int l1, .long l2, .retAddr 1, .int l4] [] σ (some (.long y.1), y.2)) (l0 : Nat) (l1 : Int32) (l4 : Int32) (s0 : Int64) (s1 : Int64) (x2 x3 : Value) (σ : xM) (y : Int64 × xM) (h : f217_64 K5 l0 l1 l4 s0 s1 σ = some y) : Rn (d + 2) 217 64 [.ref l0, .int l1, x2, x3, .int l4] [.long s0, .long s1] σ (some (.long y.1), y.2) := by
  unfold f217_64 at h
  refine rn_steps 2 66 [.ref l0, .int l1, .long (s1 * s0), .retAddr 1, .int l4] [] rfl ?_
  exact e217_66 d _ hK5 _ _ _ _ _ _ h
noncomputable def f217_5 : Nat → Nat → Int32 → Int64 → Int32 → xM → Option (Int64 × xM)
  | 0, _, _, _, _, _ => none
  | n + 1, l0, l1, l2, l4, σ =>
    (gR σ l0 9 3).bind fun r1 =>
    (gI σ r1 8 2).bind fun v2 =>
    if v2 ≤ l4 then
    f217_72 l2 σ
    else
    (cO σ l0 9).bind fun u11 =>
    (f190 l0 l4 σ).bind fun y3 =>
    if y3.1 = 0 then
    f217_66 (f217_5 n) l0 l1 l2 l4 y3.2
    else
    (f157 l1 l4 y3.2).bind fun y4 =>
    if y4.1 = 0 then
    (gR y4.2 l0 9 3).bind fun r5 =>
    (gR y4.2 r5 8 9).bind fun r6 =>
    (aI y4.2 r6 l4).bind fun v7 =>
    f217_64 (f217_5 n) l0 l1 l4 ((100 - v7).toInt64) l2 y4.2
    else
    (gR y4.2 l0 9 3).bind fun r8 =>
    (gR y4.2 r8 8 9).bind fun r9 =>
    (aI y4.2 r9 l4).bind fun v10 =>
    f217_64 (f217_5 n) l0 l1 l4 v10.toInt64 l2 y4.2
set_option maxRecDepth 20000 in
set_option maxHeartbeats 1000000 in
theorem e217_5 (d : Nat) : ∀ (n : Nat) (l0 : Nat) (l1 : Int32) (l2 : Int64) (l4 : Int32) (σ : xM) (y : Int64 × xM), f217_5 n l0 l1 l2 l4 σ = some y → Rn (d + 2) 217 5 [.ref l0, .int l1, .long l2, .retAddr 1, .int l4] [] σ (some (.long y.1), y.2) := by
  intro n
  induction n with
  | zero => intro l0 l1 l2 l4 σ y h; cases h
  | succ n ih =>
    intro l0 l1 l2 l4 σ y h
    unfold f217_5 at h
    refine rn_steps 2 8 [.ref l0, .int l1, .long l2, .retAddr 1, .int l4] [.ref l0, .int l4] rfl ?_
    obtain ⟨r1, hr1, h⟩ := Option.bind_eq_some_iff.mp h
    refine rn_gR (c := 9) (f := 3) rfl rfl ⟨⟨rfl, rfl⟩, rfl⟩ hr1 ?_
    refine rn_steps 0 11 [.ref l0, .int l1, .long l2, .retAddr 1, .int l4] [.ref r1, .int l4] rfl ?_
    obtain ⟨v2, hv2, h⟩ := Option.bind_eq_some_iff.mp h
    refine rn_gI (c := 8) (f := 2) rfl rfl ⟨⟨rfl, rfl⟩, Or.inl rfl⟩ hv2 ?_
    refine rn_steps 0 14 [.ref l0, .int l1, .long l2, .retAddr 1, .int l4] [.int v2, .int l4] rfl ?_
    refine rn_br (c := v2 ≤ l4) rfl rfl decide_eq_true_iff (fun hb => ?_) (fun hb => ?_)
    · rw [if_pos hb] at h
      refine rn_steps 0 72 [.ref l0, .int l1, .long l2, .retAddr 1, .int l4] [] rfl ?_
      exact e217_72 d _ _ _ _ _ _ h
    · rw [if_neg hb] at h
      refine rn_steps 2 20 [.ref l0, .int l1, .long l2, .retAddr 1, .int l4] [.int l4, .ref l0] rfl ?_
      obtain ⟨u11, hu11, h⟩ := Option.bind_eq_some_iff.mp h
      obtain ⟨y3, hy3, h⟩ := Option.bind_eq_some_iff.mp h
      refine rn_callV [.int l4] rfl rfl ⟨rfl, rfl⟩ hu11 rfl rfl (e190 d hy3) ?_
      refine rn_steps 0 23 [.ref l0, .int l1, .long l2, .retAddr 1, .int l4] [.int y3.1] rfl ?_
      refine rn_br (c := y3.1 = 0) rfl rfl decide_eq_true_iff (fun hb => ?_) (fun hb => ?_)
      · rw [if_pos hb] at h
        refine rn_steps 0 66 [.ref l0, .int l1, .long l2, .retAddr 1, .int l4] [] rfl ?_
        exact e217_66 d _ ih _ _ _ _ _ _ h
      · rw [if_neg hb] at h
        refine rn_steps 3 30 [.ref l0, .int l1, .long l2, .retAddr 1, .int l4] [.int l4, .int l1, .long l2] rfl ?_
        obtain ⟨y4, hy4, h⟩ := Option.bind_eq_some_iff.mp h
        refine rn_callS [.int l1, .int l4] rfl rfl rfl ⟨rfl, rfl, rfl⟩ rfl rfl (e157 (d + 1) hy4) ?_
        refine rn_steps 0 33 [.ref l0, .int l1, .long l2, .retAddr 1, .int l4] [.int y4.1, .long l2] rfl ?_
        refine rn_br (c := y4.1 = 0) rfl rfl decide_eq_true_iff (fun hb => ?_) (fun hb => ?_)
        · rw [if_pos hb] at h
          refine rn_steps 2 53 [.ref l0, .int l1, .long l2, .retAddr 1, .int l4] [.ref l0, .int 100, .long l2] rfl ?_
          obtain ⟨r5, hr5, h⟩ := Option.bind_eq_some_iff.mp h
          refine rn_gR (c := 9) (f := 3) rfl rfl ⟨⟨rfl, rfl⟩, rfl⟩ hr5 ?_
          refine rn_steps 0 56 [.ref l0, .int l1, .long l2, .retAddr 1, .int l4] [.ref r5, .int 100, .long l2] rfl ?_
          obtain ⟨r6, hr6, h⟩ := Option.bind_eq_some_iff.mp h
          refine rn_gR (c := 8) (f := 9) rfl rfl ⟨⟨rfl, rfl⟩, rfl⟩ hr6 ?_
          refine rn_steps 1 61 [.ref l0, .int l1, .long l2, .retAddr 1, .int l4] [.int l4, .ref r6, .int 100, .long l2] rfl ?_
          obtain ⟨v7, hv7, h⟩ := Option.bind_eq_some_iff.mp h
          refine rn_aI rfl hv7 ?_
          refine rn_steps 2 64 [.ref l0, .int l1, .long l2, .retAddr 1, .int l4] [.long ((100 - v7).toInt64), .long l2] rfl ?_
          exact e217_64 d _ ih _ _ _ _ _ _ _ _ _ h
        · rw [if_neg hb] at h
          refine rn_steps 1 37 [.ref l0, .int l1, .long l2, .retAddr 1, .int l4] [.ref l0, .long l2] rfl ?_
          obtain ⟨r8, hr8, h⟩ := Option.bind_eq_some_iff.mp h
          refine rn_gR (c := 9) (f := 3) rfl rfl ⟨⟨rfl, rfl⟩, rfl⟩ hr8 ?_
          refine rn_steps 0 40 [.ref l0, .int l1, .long l2, .retAddr 1, .int l4] [.ref r8, .long l2] rfl ?_
          obtain ⟨r9, hr9, h⟩ := Option.bind_eq_some_iff.mp h
          refine rn_gR (c := 8) (f := 9) rfl rfl ⟨⟨rfl, rfl⟩, rfl⟩ hr9 ?_
          refine rn_steps 1 45 [.ref l0, .int l1, .long l2, .retAddr 1, .int l4] [.int l4, .ref r9, .long l2] rfl ?_
          obtain ⟨v10, hv10, h⟩ := Option.bind_eq_some_iff.mp h
          refine rn_aI rfl hv10 ?_
          refine rn_steps 2 64 [.ref l0, .int l1, .long l2, .retAddr 1, .int l4] [.long v10.toInt64, .long l2] rfl ?_
          exact e217_64 d _ ih _ _ _ _ _ _ _ _ _ h
/-- LastAskedModel.partOf(I)J -/
noncomputable def f217 (l0 : Nat) (l1 : Int32) (σ : xM) : Option (Int64 × xM) :=
  f217_5 1100 l0 l1 1 0 σ
set_option maxRecDepth 20000 in
set_option maxHeartbeats 1000000 in
theorem e217 (d : Nat) {l0 : Nat} {l1 : Int32} {σ : xM} {y : Int64 × xM} (h : f217 l0 l1 σ = some y) : Rn (d + 2) 217 0 [.ref l0, .int l1, .retAddr 0, .retAddr 0, .retAddr 0] [] σ (some (.long y.1), y.2) := by
  unfold f217 at h
  refine rn_steps 4 5 [.ref l0, .int l1, .long 1, .retAddr 1, .int 0] [] rfl ?_
  exact e217_5 d 1100 _ _ _ _ _ _ h
noncomputable def f218_48 (σ : xM) : Option xM :=
  some σ
set_option maxRecDepth 20000 in
set_option maxHeartbeats 1000000 in
theorem e218_48 (d : Nat) (x0 x1 : Value) (σ : xM) (y : xM) (h : f218_48 σ = some y) : Rn (d + 2) 218 48 [x0, x1] [] σ (none, y) := by
  unfold f218_48 at h
  cases h
  exact rn_ret rfl rfl rfl
noncomputable def f218_38 (K7 : Nat → Int32 → xM → Option xM) (l0 : Nat) (l1 : Int32) (s0 : Int64) (s1 : Int64) (s2 : Nat) (σ : xM) : Option xM :=
  (pJ σ s2 9 25 (s1 * s0)).bind fun σ1 =>
  K7 l0 (l1 + 1) σ1
set_option maxRecDepth 20000 in
set_option maxHeartbeats 1000000 in
theorem e218_38 (d : Nat) (K7 : Nat → Int32 → xM → Option xM) (hK7 : ∀ (l0 : Nat) (l1 : Int32) (σ : xM) (y : xM), K7 l0 l1 σ = some y → Rn (d + 2) 218 7 [.ref l0, .int l1] [] σ (none, y)) (l0 : Nat) (l1 : Int32) (s0 : Int64) (s1 : Int64) (s2 : Nat) (σ : xM) (y : xM) (h : f218_38 K7 l0 l1 s0 s1 s2 σ = some y) : Rn (d + 2) 218 38 [.ref l0, .int l1] [.long s0, .long s1, .ref s2] σ (none, y) := by
  unfold f218_38 at h
  refine rn_steps 1 39 [.ref l0, .int l1] [.long (s1 * s0), .ref s2] rfl ?_
  obtain ⟨σ1, hσ1, h⟩ := Option.bind_eq_some_iff.mp h
  refine rn_pJ (c := 9) (f := 25) rfl rfl ⟨⟨rfl, rfl⟩, rfl⟩ hσ1 ?_
  refine rn_steps 2 7 [.ref l0, .int (l1 + 1)] [] rfl ?_
  exact hK7 _ _ _ _ h
noncomputable def f218_7 : Nat → Nat → Int32 → xM → Option xM
  | 0, _, _, _ => none
  | n + 1, l0, l1, σ =>
    (gR σ l0 9 3).bind fun r1 =>
    (gI σ r1 8 2).bind fun v2 =>
    if v2 ≤ l1 then
    f218_48 σ
    else
    (gJ σ l0 9 25).bind fun v3 =>
    (cO σ l0 9).bind fun u5 =>
    (f190 l0 l1 σ).bind fun y4 =>
    if y4.1 = 0 then
    f218_38 (f218_7 n) l0 l1 1 v3 l0 y4.2
    else
    f218_38 (f218_7 n) l0 l1 100 v3 l0 y4.2
set_option maxRecDepth 20000 in
set_option maxHeartbeats 1000000 in
theorem e218_7 (d : Nat) : ∀ (n : Nat) (l0 : Nat) (l1 : Int32) (σ : xM) (y : xM), f218_7 n l0 l1 σ = some y → Rn (d + 2) 218 7 [.ref l0, .int l1] [] σ (none, y) := by
  intro n
  induction n with
  | zero => intro l0 l1 σ y h; cases h
  | succ n ih =>
    intro l0 l1 σ y h
    unfold f218_7 at h
    refine rn_steps 2 9 [.ref l0, .int l1] [.ref l0, .int l1] rfl ?_
    obtain ⟨r1, hr1, h⟩ := Option.bind_eq_some_iff.mp h
    refine rn_gR (c := 9) (f := 3) rfl rfl ⟨⟨rfl, rfl⟩, rfl⟩ hr1 ?_
    refine rn_steps 0 12 [.ref l0, .int l1] [.ref r1, .int l1] rfl ?_
    obtain ⟨v2, hv2, h⟩ := Option.bind_eq_some_iff.mp h
    refine rn_gI (c := 8) (f := 2) rfl rfl ⟨⟨rfl, rfl⟩, Or.inl rfl⟩ hv2 ?_
    refine rn_steps 0 15 [.ref l0, .int l1] [.int v2, .int l1] rfl ?_
    refine rn_br (c := v2 ≤ l1) rfl rfl decide_eq_true_iff (fun hb => ?_) (fun hb => ?_)
    · rw [if_pos hb] at h
      refine rn_steps 0 48 [.ref l0, .int l1] [] rfl ?_
      exact e218_48 d _ _ _ _ h
    · rw [if_neg hb] at h
      refine rn_steps 2 20 [.ref l0, .int l1] [.ref l0, .ref l0] rfl ?_
      obtain ⟨v3, hv3, h⟩ := Option.bind_eq_some_iff.mp h
      refine rn_gJ (c := 9) (f := 25) rfl rfl ⟨⟨rfl, rfl⟩, rfl⟩ hv3 ?_
      refine rn_steps 2 25 [.ref l0, .int l1] [.int l1, .ref l0, .long v3, .ref l0] rfl ?_
      obtain ⟨u5, hu5, h⟩ := Option.bind_eq_some_iff.mp h
      obtain ⟨y4, hy4, h⟩ := Option.bind_eq_some_iff.mp h
      refine rn_callV [.int l1] rfl rfl ⟨rfl, rfl⟩ hu5 rfl rfl (e190 d hy4) ?_
      refine rn_steps 0 28 [.ref l0, .int l1] [.int y4.1, .long v3, .ref l0] rfl ?_
      refine rn_br (c := y4.1 = 0) rfl rfl decide_eq_true_iff (fun hb => ?_) (fun hb => ?_)
      · rw [if_pos hb] at h
        refine rn_steps 1 38 [.ref l0, .int l1] [.long 1, .long v3, .ref l0] rfl ?_
        exact e218_38 d _ ih _ _ _ _ _ _ _ h
      · rw [if_neg hb] at h
        refine rn_steps 2 38 [.ref l0, .int l1] [.long 100, .long v3, .ref l0] rfl ?_
        exact e218_38 d _ ih _ _ _ _ _ _ _ h
/-- LastAskedModel.wholeOf()V -/
noncomputable def f218 (l0 : Nat) (σ : xM) : Option xM :=
  (pJ σ l0 9 25 1).bind fun σ1 =>
  f218_7 1100 l0 0 σ1
set_option maxRecDepth 20000 in
set_option maxHeartbeats 1000000 in
theorem e218 (d : Nat) {l0 : Nat} {σ : xM} {y : xM} (h : f218 l0 σ = some y) : Rn (d + 2) 218 0 [.ref l0, .retAddr 0] [] σ (none, y) := by
  unfold f218 at h
  refine rn_steps 2 2 [.ref l0, .retAddr 0] [.long 1, .ref l0] rfl ?_
  obtain ⟨σ1, hσ1, h⟩ := Option.bind_eq_some_iff.mp h
  refine rn_pJ (c := 9) (f := 25) rfl rfl ⟨⟨rfl, rfl⟩, rfl⟩ hσ1 ?_
  refine rn_steps 2 7 [.ref l0, .int 0] [] rfl ?_
  exact e218_7 d 1100 _ _ _ _ h
noncomputable def f219_86 (l2 : Int64) (σ : xM) : Option (Int64 × xM) :=
  some (l2, σ)
set_option maxRecDepth 20000 in
set_option maxHeartbeats 1000000 in
theorem e219_86 (d : Nat) (l2 : Int64) (x0 x1 x4 x5 x6 : Value) (σ : xM) (y : Int64 × xM) (h : f219_86 l2 σ = some y) : Rn (d + 4) 219 86 [x0, x1, .long l2, .retAddr 1, x4, x5, x6] [] σ (some (.long y.1), y.2) := by
  unfold f219_86 at h
  refine rn_steps 1 87 [x0, x1, .long l2, .retAddr 1, x4, x5, x6] [.long l2] rfl ?_
  cases h
  exact rn_ret rfl rfl rfl
noncomputable def f219_80 (K13 : Nat → Int32 → Int64 → Int32 → xM → Option (Int64 × xM)) (l0 : Nat) (l1 : Int32) (l2 : Int64) (l4 : Int32) (σ : xM) : Option (Int64 × xM) :=
  K13 l0 l1 l2 (l4 + 1) σ
set_option maxRecDepth 20000 in
set_option maxHeartbeats 1000000 in
theorem e219_80 (d : Nat) (K13 : Nat → Int32 → Int64 → Int32 → xM → Option (Int64 × xM)) (hK13 : ∀ (l0 : Nat) (l1 : Int32) (l2 : Int64) (l4 : Int32) (x5 x6 : Value) (σ : xM) (y : Int64 × xM), K13 l0 l1 l2 l4 σ = some y → Rn (d + 4) 219 13 [.ref l0, .int l1, .long l2, .retAddr 1, .int l4, x5, x6] [] σ (some (.long y.1), y.2)) (l0 : Nat) (l1 : Int32) (l2 : Int64) (l4 : Int32) (x5 x6 : Value) (σ : xM) (y : Int64 × xM) (h : f219_80 K13 l0 l1 l2 l4 σ = some y) : Rn (d + 4) 219 80 [.ref l0, .int l1, .long l2, .retAddr 1, .int l4, x5, x6] [] σ (some (.long y.1), y.2) := by
  unfold f219_80 at h
  refine rn_steps 2 13 [.ref l0, .int l1, .long l2, .retAddr 1, .int (l4 + 1), x5, x6] [] rfl ?_
  exact hK13 _ _ _ _ _ _ _ _ h
noncomputable def f219_13 : Nat → Nat → Int32 → Int64 → Int32 → xM → Option (Int64 × xM)
  | 0, _, _, _, _, _ => none
  | n + 1, l0, l1, l2, l4, σ =>
    (gR σ l0 9 17).bind fun r1 =>
    (aI σ r1 42).bind fun v2 =>
    if v2 < l4 then
    f219_86 l2 σ
    else
    (gR σ l0 9 17).bind fun r3 =>
    (aI σ r3 42).bind fun v4 =>
    if (l4 &&& (v4 ^^^ (-1))) = 0 then
    (cO σ l0 9).bind fun u10 =>
    (f217 l0 l4 σ).bind fun y5 =>
    if (lg_cmp y5.1 0) = 0 then
    f219_80 (f219_13 n) l0 l1 l2 l4 y5.2
    else
    (cO y5.2 l0 9).bind fun u9 =>
    (f195 l0 l4 y5.2).bind fun y6 =>
    (gR y6 l0 9 23).bind fun r7 =>
    (aI y6 r7 l1).bind fun v8 =>
    f219_80 (f219_13 n) l0 l1 (l2 + (y5.1 * v8.toInt64)) l4 y6
    else
    f219_80 (f219_13 n) l0 l1 l2 l4 σ
set_option maxRecDepth 20000 in
set_option maxHeartbeats 1000000 in
theorem e219_13 (d : Nat) : ∀ (n : Nat) (l0 : Nat) (l1 : Int32) (l2 : Int64) (l4 : Int32) (x5 x6 : Value) (σ : xM) (y : Int64 × xM), f219_13 n l0 l1 l2 l4 σ = some y → Rn (d + 4) 219 13 [.ref l0, .int l1, .long l2, .retAddr 1, .int l4, x5, x6] [] σ (some (.long y.1), y.2) := by
  intro n
  induction n with
  | zero => intro l0 l1 l2 l4 x5 x6 σ y h; cases h
  | succ n ih =>
    intro l0 l1 l2 l4 x5 x6 σ y h
    unfold f219_13 at h
    refine rn_steps 2 16 [.ref l0, .int l1, .long l2, .retAddr 1, .int l4, x5, x6] [.ref l0, .int l4] rfl ?_
    obtain ⟨r1, hr1, h⟩ := Option.bind_eq_some_iff.mp h
    refine rn_gR (c := 9) (f := 17) rfl rfl ⟨⟨rfl, rfl⟩, rfl⟩ hr1 ?_
    refine rn_steps 1 21 [.ref l0, .int l1, .long l2, .retAddr 1, .int l4, x5, x6] [.int 42, .ref r1, .int l4] rfl ?_
    obtain ⟨v2, hv2, h⟩ := Option.bind_eq_some_iff.mp h
    refine rn_aI rfl hv2 ?_
    refine rn_steps 0 22 [.ref l0, .int l1, .long l2, .retAddr 1, .int l4, x5, x6] [.int v2, .int l4] rfl ?_
    refine rn_br (c := v2 < l4) rfl rfl decide_eq_true_iff (fun hb => ?_) (fun hb => ?_)
    · rw [if_pos hb] at h
      refine rn_steps 0 86 [.ref l0, .int l1, .long l2, .retAddr 1, .int l4, x5, x6] [] rfl ?_
      exact e219_86 d _ _ _ _ _ _ _ _ h
    · rw [if_neg hb] at h
      refine rn_steps 2 28 [.ref l0, .int l1, .long l2, .retAddr 1, .int l4, x5, x6] [.ref l0, .int l4] rfl ?_
      obtain ⟨r3, hr3, h⟩ := Option.bind_eq_some_iff.mp h
      refine rn_gR (c := 9) (f := 17) rfl rfl ⟨⟨rfl, rfl⟩, rfl⟩ hr3 ?_
      refine rn_steps 1 33 [.ref l0, .int l1, .long l2, .retAddr 1, .int l4, x5, x6] [.int 42, .ref r3, .int l4] rfl ?_
      obtain ⟨v4, hv4, h⟩ := Option.bind_eq_some_iff.mp h
      refine rn_aI rfl hv4 ?_
      refine rn_steps 3 37 [.ref l0, .int l1, .long l2, .retAddr 1, .int l4, x5, x6] [.int (l4 &&& (v4 ^^^ (-1)))] rfl ?_
      refine rn_br (c := (l4 &&& (v4 ^^^ (-1))) = 0) rfl rfl decide_eq_true_iff (fun hb => ?_) (fun hb => ?_)
      · rw [if_pos hb] at h
        refine rn_steps 2 46 [.ref l0, .int l1, .long l2, .retAddr 1, .int l4, x5, x6] [.int l4, .ref l0] rfl ?_
        obtain ⟨u10, hu10, h⟩ := Option.bind_eq_some_iff.mp h
        obtain ⟨y5, hy5, h⟩ := Option.bind_eq_some_iff.mp h
        refine rn_callV [.int l4] rfl rfl ⟨rfl, rfl⟩ hu10 rfl rfl (e217 (d + 1) hy5) ?_
        refine rn_steps 4 55 [.ref l0, .int l1, .long l2, .retAddr 1, .int l4, .long y5.1, .retAddr 1] [.int (lg_cmp y5.1 0)] rfl ?_
        refine rn_br (c := ¬ (lg_cmp y5.1 0) = 0) rfl rfl decide_eq_true_iff (fun hb => ?_) (fun hb => ?_)
        · rw [if_neg hb] at h
          refine rn_steps 2 64 [.ref l0, .int l1, .long l2, .retAddr 1, .int l4, .long y5.1, .retAddr 1] [.int l4, .ref l0] rfl ?_
          obtain ⟨u9, hu9, h⟩ := Option.bind_eq_some_iff.mp h
          obtain ⟨y6, hy6, h⟩ := Option.bind_eq_some_iff.mp h
          refine rn_callV [.int l4] rfl rfl ⟨rfl, rfl⟩ hu9 rfl rfl (e195 (d + 1) hy6) ?_
          refine rn_steps 3 71 [.ref l0, .int l1, .long l2, .retAddr 1, .int l4, .long y5.1, .retAddr 1] [.ref l0, .long y5.1, .long l2] rfl ?_
          obtain ⟨r7, hr7, h⟩ := Option.bind_eq_some_iff.mp h
          refine rn_gR (c := 9) (f := 23) rfl rfl ⟨⟨rfl, rfl⟩, rfl⟩ hr7 ?_
          refine rn_steps 1 75 [.ref l0, .int l1, .long l2, .retAddr 1, .int l4, .long y5.1, .retAddr 1] [.int l1, .ref r7, .long y5.1, .long l2] rfl ?_
          obtain ⟨v8, hv8, h⟩ := Option.bind_eq_some_iff.mp h
          refine rn_aI rfl hv8 ?_
          refine rn_steps 4 80 [.ref l0, .int l1, .long (l2 + (y5.1 * v8.toInt64)), .retAddr 1, .int l4, .long y5.1, .retAddr 1] [] rfl ?_
          exact e219_80 d _ ih _ _ _ _ _ _ _ _ h
        · rw [if_pos (Decidable.not_not.mp hb)] at h
          refine rn_steps 1 80 [.ref l0, .int l1, .long l2, .retAddr 1, .int l4, .long y5.1, .retAddr 1] [] rfl ?_
          exact e219_80 d _ ih _ _ _ _ _ _ _ _ h
      · rw [if_neg hb] at h
        refine rn_steps 1 80 [.ref l0, .int l1, .long l2, .retAddr 1, .int l4, x5, x6] [] rfl ?_
        exact e219_80 d _ ih _ _ _ _ _ _ _ _ h
/-- LastAskedModel.meanOf(I)J -/
noncomputable def f219 (l0 : Nat) (l1 : Int32) (σ : xM) : Option (Int64 × xM) :=
  (cO σ l0 9).bind fun u4 =>
  (f193 l0 σ).bind fun y1 =>
  (cO y1 l0 9).bind fun u3 =>
  (f218 l0 y1).bind fun y2 =>
  f219_13 1100 l0 l1 0 0 y2
set_option maxRecDepth 20000 in
set_option maxHeartbeats 1000000 in
theorem e219 (d : Nat) {l0 : Nat} {l1 : Int32} {σ : xM} {y : Int64 × xM} (h : f219 l0 l1 σ = some y) : Rn (d + 4) 219 0 [.ref l0, .int l1, .retAddr 0, .retAddr 0, .retAddr 0, .retAddr 0, .retAddr 0] [] σ (some (.long y.1), y.2) := by
  unfold f219 at h
  refine rn_steps 3 3 [.ref l0, .int l1, .long 0, .retAddr 1, .retAddr 0, .retAddr 0, .retAddr 0] [.ref l0] rfl ?_
  obtain ⟨u4, hu4, h⟩ := Option.bind_eq_some_iff.mp h
  obtain ⟨y1, hy1, h⟩ := Option.bind_eq_some_iff.mp h
  refine rn_callV [] rfl rfl ⟨rfl, rfl⟩ hu4 rfl rfl (e193 d hy1) ?_
  refine rn_steps 1 7 [.ref l0, .int l1, .long 0, .retAddr 1, .retAddr 0, .retAddr 0, .retAddr 0] [.ref l0] rfl ?_
  obtain ⟨u3, hu3, h⟩ := Option.bind_eq_some_iff.mp h
  obtain ⟨y2, hy2, h⟩ := Option.bind_eq_some_iff.mp h
  refine rn_callV [] rfl rfl ⟨rfl, rfl⟩ hu3 rfl rfl (e218 (d + 1) hy2) ?_
  refine rn_steps 2 13 [.ref l0, .int l1, .long 0, .retAddr 1, .int 0, .retAddr 0, .retAddr 0] [] rfl ?_
  exact e219_13 d 1100 _ _ _ _ _ _ _ _ h
noncomputable def f220_55 (l0 : Nat) (l2 : Int32) (l3 : Int64) (σ : xM) : Option (Int64 × xM) :=
  (gJ σ l0 9 25).bind fun v1 =>
  (cO σ l0 9).bind fun u3 =>
  (f160 l0 l3 v1 l2 σ).bind fun y2 =>
  some (y2.1, y2.2)
set_option maxRecDepth 20000 in
set_option maxHeartbeats 1000000 in
theorem e220_55 (d : Nat) (l0 : Nat) (l2 : Int32) (l3 : Int64) (x1 : Value) (σ : xM) (y : Int64 × xM) (h : f220_55 l0 l2 l3 σ = some y) : Rn (d + 5) 220 55 [.ref l0, x1, .int l2, .long l3, .retAddr 1] [] σ (some (.long y.1), y.2) := by
  unfold f220_55 at h
  refine rn_steps 3 58 [.ref l0, x1, .int l2, .long l3, .retAddr 1] [.ref l0, .long l3, .ref l0] rfl ?_
  obtain ⟨v1, hv1, h⟩ := Option.bind_eq_some_iff.mp h
  refine rn_gJ (c := 9) (f := 25) rfl rfl ⟨⟨rfl, rfl⟩, rfl⟩ hv1 ?_
  refine rn_steps 1 62 [.ref l0, x1, .int l2, .long l3, .retAddr 1] [.int l2, .long v1, .long l3, .ref l0] rfl ?_
  obtain ⟨u3, hu3, h⟩ := Option.bind_eq_some_iff.mp h
  obtain ⟨y2, hy2, h⟩ := Option.bind_eq_some_iff.mp h
  refine rn_callV [.long l3, .long v1, .int l2] rfl rfl ⟨rfl, rfl⟩ hu3 rfl rfl (e160 (d + 3) hy2) ?_
  refine rn_steps 0 65 [.ref l0, x1, .int l2, .long l3, .retAddr 1] [.long y2.1] rfl ?_
  cases h
  exact rn_ret rfl rfl rfl
noncomputable def f220_41 (l0 : Nat) (l1 : Int32) (l2 : Int32) (s0 : Int64) (σ : xM) : Option (Int64 × xM) :=
  (cO σ l0 9).bind fun u3 =>
  (f190 l0 l1 σ).bind fun y1 =>
  if y1.1 = 0 then
  (pJ y1.2 l0 9 25 1).bind fun σ2 =>
  f220_55 l0 l2 s0 σ2
  else
  f220_55 l0 l2 s0 y1.2
set_option maxRecDepth 20000 in
set_option maxHeartbeats 1000000 in
theorem e220_41 (d : Nat) (l0 : Nat) (l1 : Int32) (l2 : Int32) (s0 : Int64) (x3 x4 : Value) (σ : xM) (y : Int64 × xM) (h : f220_41 l0 l1 l2 s0 σ = some y) : Rn (d + 5) 220 41 [.ref l0, .int l1, .int l2, x3, x4] [.long s0] σ (some (.long y.1), y.2) := by
  unfold f220_41 at h
  refine rn_steps 3 44 [.ref l0, .int l1, .int l2, .long s0, .retAddr 1] [.int l1, .ref l0] rfl ?_
  obtain ⟨u3, hu3, h⟩ := Option.bind_eq_some_iff.mp h
  obtain ⟨y1, hy1, h⟩ := Option.bind_eq_some_iff.mp h
  refine rn_callV [.int l1] rfl rfl ⟨rfl, rfl⟩ hu3 rfl rfl (e190 (d + 3) hy1) ?_
  refine rn_steps 0 47 [.ref l0, .int l1, .int l2, .long s0, .retAddr 1] [.int y1.1] rfl ?_
  refine rn_br (c := ¬ y1.1 = 0) rfl rfl decide_eq_true_iff (fun hb => ?_) (fun hb => ?_)
  · rw [if_neg hb] at h
    refine rn_steps 0 55 [.ref l0, .int l1, .int l2, .long s0, .retAddr 1] [] rfl ?_
    exact e220_55 d _ _ _ _ _ _ h
  · rw [if_pos (Decidable.not_not.mp hb)] at h
    refine rn_steps 2 52 [.ref l0, .int l1, .int l2, .long s0, .retAddr 1] [.long 1, .ref l0] rfl ?_
    obtain ⟨σ2, hσ2, h⟩ := Option.bind_eq_some_iff.mp h
    refine rn_pJ (c := 9) (f := 25) rfl rfl ⟨⟨rfl, rfl⟩, rfl⟩ hσ2 ?_
    refine rn_steps 0 55 [.ref l0, .int l1, .int l2, .long s0, .retAddr 1] [] rfl ?_
    exact e220_55 d _ _ _ _ _ _ h
/-- LastAskedModel.mean(IZ)J -/
noncomputable def f220 (l0 : Nat) (l1 : Int32) (l2 : Int32) (σ : xM) : Option (Int64 × xM) :=
  (pI σ l0 9 0 0).bind fun σ1 =>
  (cO σ1 l0 9).bind fun u11 =>
  (f186 l0 l1 σ1).bind fun y2 =>
  if y2.1 = 0 then
  (cO y2.2 l0 9).bind fun u10 =>
  (f151 l0 1 y2.2).bind fun y9 =>
  some (y9.1.toInt64, y9.2)
  else
  (cO y2.2 l0 9).bind fun u8 =>
  (f188 l0 y2.2).bind fun y3 =>
  (cO y3 l0 9).bind fun u7 =>
  (f190 l0 l1 y3).bind fun y4 =>
  if y4.1 = 0 then
  f220_41 l0 l1 l2 0 y4.2
  else
  (cO y4.2 l0 9).bind fun u6 =>
  (f219 l0 l1 y4.2).bind fun y5 =>
  f220_41 l0 l1 l2 y5.1 y5.2
set_option maxRecDepth 20000 in
set_option maxHeartbeats 1000000 in
theorem e220 (d : Nat) {l0 : Nat} {l1 : Int32} {l2 : Int32} {σ : xM} {y : Int64 × xM} (h : f220 l0 l1 l2 σ = some y) : Rn (d + 5) 220 0 [.ref l0, .int l1, .int l2, .retAddr 0, .retAddr 0] [] σ (some (.long y.1), y.2) := by
  unfold f220 at h
  refine rn_steps 2 2 [.ref l0, .int l1, .int l2, .retAddr 0, .retAddr 0] [.int 0, .ref l0] rfl ?_
  obtain ⟨σ1, hσ1, h⟩ := Option.bind_eq_some_iff.mp h
  refine rn_pI (c := 9) (f := 0) rfl rfl ⟨⟨rfl, rfl⟩, rfl⟩ hσ1 ?_
  refine rn_steps 2 7 [.ref l0, .int l1, .int l2, .retAddr 0, .retAddr 0] [.int l1, .ref l0] rfl ?_
  obtain ⟨u11, hu11, h⟩ := Option.bind_eq_some_iff.mp h
  obtain ⟨y2, hy2, h⟩ := Option.bind_eq_some_iff.mp h
  refine rn_callV [.int l1] rfl rfl ⟨rfl, rfl⟩ hu11 rfl rfl (e186 (d + 4) hy2) ?_
  refine rn_steps 0 10 [.ref l0, .int l1, .int l2, .retAddr 0, .retAddr 0] [.int y2.1] rfl ?_
  refine rn_br (c := ¬ y2.1 = 0) rfl rfl decide_eq_true_iff (fun hb => ?_) (fun hb => ?_)
  · rw [if_neg hb] at h
    refine rn_steps 1 21 [.ref l0, .int l1, .int l2, .retAddr 0, .retAddr 0] [.ref l0] rfl ?_
    obtain ⟨u8, hu8, h⟩ := Option.bind_eq_some_iff.mp h
    obtain ⟨y3, hy3, h⟩ := Option.bind_eq_some_iff.mp h
    refine rn_callV [] rfl rfl ⟨rfl, rfl⟩ hu8 rfl rfl (e188 (d + 4) hy3) ?_
    refine rn_steps 2 26 [.ref l0, .int l1, .int l2, .retAddr 0, .retAddr 0] [.int l1, .ref l0] rfl ?_
    obtain ⟨u7, hu7, h⟩ := Option.bind_eq_some_iff.mp h
    obtain ⟨y4, hy4, h⟩ := Option.bind_eq_some_iff.mp h
    refine rn_callV [.int l1] rfl rfl ⟨rfl, rfl⟩ hu7 rfl rfl (e190 (d + 3) hy4) ?_
    refine rn_steps 0 29 [.ref l0, .int l1, .int l2, .retAddr 0, .retAddr 0] [.int y4.1] rfl ?_
    refine rn_br (c := y4.1 = 0) rfl rfl decide_eq_true_iff (fun hb => ?_) (fun hb => ?_)
    · rw [if_pos hb] at h
      refine rn_steps 1 41 [.ref l0, .int l1, .int l2, .retAddr 0, .retAddr 0] [.long 0] rfl ?_
      exact e220_41 d _ _ _ _ _ _ _ _ h
    · rw [if_neg hb] at h
      refine rn_steps 2 34 [.ref l0, .int l1, .int l2, .retAddr 0, .retAddr 0] [.int l1, .ref l0] rfl ?_
      obtain ⟨u6, hu6, h⟩ := Option.bind_eq_some_iff.mp h
      obtain ⟨y5, hy5, h⟩ := Option.bind_eq_some_iff.mp h
      refine rn_callV [.int l1] rfl rfl ⟨rfl, rfl⟩ hu6 rfl rfl (e219 d hy5) ?_
      refine rn_steps 1 41 [.ref l0, .int l1, .int l2, .retAddr 0, .retAddr 0] [.long y5.1] rfl ?_
      exact e220_41 d _ _ _ _ _ _ _ _ h
  · rw [if_pos (Decidable.not_not.mp hb)] at h
    refine rn_steps 2 15 [.ref l0, .int l1, .int l2, .retAddr 0, .retAddr 0] [.int 1, .ref l0] rfl ?_
    obtain ⟨u10, hu10, h⟩ := Option.bind_eq_some_iff.mp h
    obtain ⟨y9, hy9, h⟩ := Option.bind_eq_some_iff.mp h
    refine rn_callV [.int 1] rfl rfl ⟨rfl, rfl⟩ hu10 rfl rfl (e151 (d + 4) hy9) ?_
    refine rn_steps 1 19 [.ref l0, .int l1, .int l2, .retAddr 0, .retAddr 0] [.long y9.1.toInt64] rfl ?_
    cases h
    exact rn_ret rfl rfl rfl
