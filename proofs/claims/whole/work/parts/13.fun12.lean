noncomputable def f229_202 (σ : xM) : Option (Int32 × xM) :=
  some (9999, σ)
set_option maxRecDepth 20000 in
set_option maxHeartbeats 1000000 in
theorem e229_202 (d : Nat) (x0 x1 x2 x3 x4 x5 x6 : Value) (σ : xM) (y : Int32 × xM) (h : f229_202 σ = some y) : Rn (d + 2) 229 202 [x0, x1, x2, x3, x4, x5, x6] [] σ (some (.int y.1), y.2) := by
  unfold f229_202 at h
  refine rn_steps 1 205 [x0, x1, x2, x3, x4, x5, x6] [.int 9999] rfl ?_
  cases h
  exact rn_ret rfl rfl rfl
noncomputable def f229_196 (K38 : Nat → Int32 → Int32 → Int32 → xM → Option (Int32 × xM)) (l0 : Nat) (l2 : Int32) (l3 : Int32) (l4 : Int32) (σ : xM) : Option (Int32 × xM) :=
  K38 l0 l2 l3 (l4 + 1) σ
set_option maxRecDepth 20000 in
set_option maxHeartbeats 1000000 in
theorem e229_196 (d : Nat) (K38 : Nat → Int32 → Int32 → Int32 → xM → Option (Int32 × xM)) (hK38 : ∀ (l0 : Nat) (l2 : Int32) (l3 : Int32) (l4 : Int32) (x1 x5 x6 : Value) (σ : xM) (y : Int32 × xM), K38 l0 l2 l3 l4 σ = some y → Rn (d + 2) 229 38 [.ref l0, x1, .int l2, .int l3, .int l4, x5, x6] [] σ (some (.int y.1), y.2)) (l0 : Nat) (l2 : Int32) (l3 : Int32) (l4 : Int32) (x1 x5 x6 : Value) (σ : xM) (y : Int32 × xM) (h : f229_196 K38 l0 l2 l3 l4 σ = some y) : Rn (d + 2) 229 196 [.ref l0, x1, .int l2, .int l3, .int l4, x5, x6] [] σ (some (.int y.1), y.2) := by
  unfold f229_196 at h
  refine rn_steps 2 38 [.ref l0, x1, .int l2, .int l3, .int (l4 + 1), x5, x6] [] rfl ?_
  exact hK38 _ _ _ _ _ _ _ _ _ h
noncomputable def f229_169 (K38 : Nat → Int32 → Int32 → Int32 → xM → Option (Int32 × xM)) : Nat → Nat → Int32 → Int32 → Int32 → Int32 → xM → Option (Int32 × xM)
  | 0, _, _, _, _, _, _ => none
  | n + 1, l0, l2, l3, l4, l5, σ =>
    if 64 ≤ l5 then
    f229_196 K38 l0 l2 l3 l4 σ
    else
    (gR σ l0 9 27).bind fun r1 =>
    (gR σ l0 9 28).bind fun r2 =>
    (aI σ r2 l5).bind fun v3 =>
    (tI σ r1 l5 v3).bind fun σ4 =>
    (f229_169 K38 n) l0 l2 l3 l4 (l5 + 1) σ4
set_option maxRecDepth 20000 in
set_option maxHeartbeats 1000000 in
theorem e229_169 (d : Nat) (K38 : Nat → Int32 → Int32 → Int32 → xM → Option (Int32 × xM)) (hK38 : ∀ (l0 : Nat) (l2 : Int32) (l3 : Int32) (l4 : Int32) (x1 x5 x6 : Value) (σ : xM) (y : Int32 × xM), K38 l0 l2 l3 l4 σ = some y → Rn (d + 2) 229 38 [.ref l0, x1, .int l2, .int l3, .int l4, x5, x6] [] σ (some (.int y.1), y.2)) : ∀ (n : Nat) (l0 : Nat) (l2 : Int32) (l3 : Int32) (l4 : Int32) (l5 : Int32) (x1 x6 : Value) (σ : xM) (y : Int32 × xM), f229_169 K38 n l0 l2 l3 l4 l5 σ = some y → Rn (d + 2) 229 169 [.ref l0, x1, .int l2, .int l3, .int l4, .int l5, x6] [] σ (some (.int y.1), y.2) := by
  intro n
  induction n with
  | zero => intro l0 l2 l3 l4 l5 x1 x6 σ y h; cases h
  | succ n ih =>
    intro l0 l2 l3 l4 l5 x1 x6 σ y h
    unfold f229_169 at h
    refine rn_steps 2 173 [.ref l0, x1, .int l2, .int l3, .int l4, .int l5, x6] [.int 64, .int l5] rfl ?_
    refine rn_br (c := 64 ≤ l5) rfl rfl decide_eq_true_iff (fun hb => ?_) (fun hb => ?_)
    · rw [if_pos hb] at h
      refine rn_steps 0 196 [.ref l0, x1, .int l2, .int l3, .int l4, .int l5, x6] [] rfl ?_
      exact e229_196 d _ hK38 _ _ _ _ _ _ _ _ _ h
    · rw [if_neg hb] at h
      refine rn_steps 1 177 [.ref l0, x1, .int l2, .int l3, .int l4, .int l5, x6] [.ref l0] rfl ?_
      obtain ⟨r1, hr1, h⟩ := Option.bind_eq_some_iff.mp h
      refine rn_gR (c := 9) (f := 27) rfl rfl ⟨⟨rfl, rfl⟩, rfl⟩ hr1 ?_
      refine rn_steps 2 183 [.ref l0, x1, .int l2, .int l3, .int l4, .int l5, x6] [.ref l0, .int l5, .ref r1] rfl ?_
      obtain ⟨r2, hr2, h⟩ := Option.bind_eq_some_iff.mp h
      refine rn_gR (c := 9) (f := 28) rfl rfl ⟨⟨rfl, rfl⟩, rfl⟩ hr2 ?_
      refine rn_steps 1 188 [.ref l0, x1, .int l2, .int l3, .int l4, .int l5, x6] [.int l5, .ref r2, .int l5, .ref r1] rfl ?_
      obtain ⟨v3, hv3, h⟩ := Option.bind_eq_some_iff.mp h
      refine rn_aI rfl hv3 ?_
      refine rn_steps 0 189 [.ref l0, x1, .int l2, .int l3, .int l4, .int l5, x6] [.int v3, .int l5, .ref r1] rfl ?_
      obtain ⟨σ4, hσ4, h⟩ := Option.bind_eq_some_iff.mp h
      refine rn_tI rfl hσ4 ?_
      refine rn_steps 2 169 [.ref l0, x1, .int l2, .int l3, .int l4, .int (l5 + 1), x6] [] rfl ?_
      exact ih _ _ _ _ _ _ _ _ _ h
noncomputable def f229_166 (K38 : Nat → Int32 → Int32 → Int32 → xM → Option (Int32 × xM)) (l0 : Nat) (l2 : Int32) (l3 : Int32) (l4 : Int32) (σ : xM) : Option (Int32 × xM) :=
  f229_169 K38 1100 l0 l2 l3 l4 0 σ
set_option maxRecDepth 20000 in
set_option maxHeartbeats 1000000 in
theorem e229_166 (d : Nat) (K38 : Nat → Int32 → Int32 → Int32 → xM → Option (Int32 × xM)) (hK38 : ∀ (l0 : Nat) (l2 : Int32) (l3 : Int32) (l4 : Int32) (x1 x5 x6 : Value) (σ : xM) (y : Int32 × xM), K38 l0 l2 l3 l4 σ = some y → Rn (d + 2) 229 38 [.ref l0, x1, .int l2, .int l3, .int l4, x5, x6] [] σ (some (.int y.1), y.2)) (l0 : Nat) (l2 : Int32) (l3 : Int32) (l4 : Int32) (x1 x5 x6 : Value) (σ : xM) (y : Int32 × xM) (h : f229_166 K38 l0 l2 l3 l4 σ = some y) : Rn (d + 2) 229 166 [.ref l0, x1, .int l2, .int l3, .int l4, x5, x6] [] σ (some (.int y.1), y.2) := by
  unfold f229_166 at h
  refine rn_steps 2 169 [.ref l0, x1, .int l2, .int l3, .int l4, .int 0, x6] [] rfl ?_
  exact e229_169 d _ hK38 1100 _ _ _ _ _ _ _ _ _ h
noncomputable def f229_160 (K38 : Nat → Int32 → Int32 → Int32 → xM → Option (Int32 × xM)) (K109 : Nat → Int32 → Int32 → Int32 → Int32 → xM → Option (Int32 × xM)) (l0 : Nat) (l2 : Int32) (l3 : Int32) (l4 : Int32) (l5 : Int32) (σ : xM) : Option (Int32 × xM) :=
  K109 l0 l2 l3 l4 (l5 + 1) σ
set_option maxRecDepth 20000 in
set_option maxHeartbeats 1000000 in
theorem e229_160 (d : Nat) (K38 : Nat → Int32 → Int32 → Int32 → xM → Option (Int32 × xM)) (hK38 : ∀ (l0 : Nat) (l2 : Int32) (l3 : Int32) (l4 : Int32) (x1 x5 x6 : Value) (σ : xM) (y : Int32 × xM), K38 l0 l2 l3 l4 σ = some y → Rn (d + 2) 229 38 [.ref l0, x1, .int l2, .int l3, .int l4, x5, x6] [] σ (some (.int y.1), y.2)) (K109 : Nat → Int32 → Int32 → Int32 → Int32 → xM → Option (Int32 × xM)) (hK109 : ∀ (l0 : Nat) (l2 : Int32) (l3 : Int32) (l4 : Int32) (l5 : Int32) (x1 x6 : Value) (σ : xM) (y : Int32 × xM), K109 l0 l2 l3 l4 l5 σ = some y → Rn (d + 2) 229 109 [.ref l0, x1, .int l2, .int l3, .int l4, .int l5, x6] [] σ (some (.int y.1), y.2)) (l0 : Nat) (l2 : Int32) (l3 : Int32) (l4 : Int32) (l5 : Int32) (x1 x6 : Value) (σ : xM) (y : Int32 × xM) (h : f229_160 K38 K109 l0 l2 l3 l4 l5 σ = some y) : Rn (d + 2) 229 160 [.ref l0, x1, .int l2, .int l3, .int l4, .int l5, x6] [] σ (some (.int y.1), y.2) := by
  unfold f229_160 at h
  refine rn_steps 2 109 [.ref l0, x1, .int l2, .int l3, .int l4, .int (l5 + 1), x6] [] rfl ?_
  exact hK109 _ _ _ _ _ _ _ _ _ h
noncomputable def f229_154 (K38 : Nat → Int32 → Int32 → Int32 → xM → Option (Int32 × xM)) (K109 : Nat → Int32 → Int32 → Int32 → Int32 → xM → Option (Int32 × xM)) (K119 : Nat → Int32 → Int32 → Int32 → Int32 → Int32 → xM → Option (Int32 × xM)) (l0 : Nat) (l2 : Int32) (l3 : Int32) (l4 : Int32) (l5 : Int32) (l6 : Int32) (σ : xM) : Option (Int32 × xM) :=
  K119 l0 l2 l3 l4 l5 (l6 + 1) σ
set_option maxRecDepth 20000 in
set_option maxHeartbeats 1000000 in
theorem e229_154 (d : Nat) (K38 : Nat → Int32 → Int32 → Int32 → xM → Option (Int32 × xM)) (hK38 : ∀ (l0 : Nat) (l2 : Int32) (l3 : Int32) (l4 : Int32) (x1 x5 x6 : Value) (σ : xM) (y : Int32 × xM), K38 l0 l2 l3 l4 σ = some y → Rn (d + 2) 229 38 [.ref l0, x1, .int l2, .int l3, .int l4, x5, x6] [] σ (some (.int y.1), y.2)) (K109 : Nat → Int32 → Int32 → Int32 → Int32 → xM → Option (Int32 × xM)) (hK109 : ∀ (l0 : Nat) (l2 : Int32) (l3 : Int32) (l4 : Int32) (l5 : Int32) (x1 x6 : Value) (σ : xM) (y : Int32 × xM), K109 l0 l2 l3 l4 l5 σ = some y → Rn (d + 2) 229 109 [.ref l0, x1, .int l2, .int l3, .int l4, .int l5, x6] [] σ (some (.int y.1), y.2)) (K119 : Nat → Int32 → Int32 → Int32 → Int32 → Int32 → xM → Option (Int32 × xM)) (hK119 : ∀ (l0 : Nat) (l2 : Int32) (l3 : Int32) (l4 : Int32) (l5 : Int32) (l6 : Int32) (x1 : Value) (σ : xM) (y : Int32 × xM), K119 l0 l2 l3 l4 l5 l6 σ = some y → Rn (d + 2) 229 119 [.ref l0, x1, .int l2, .int l3, .int l4, .int l5, .int l6] [] σ (some (.int y.1), y.2)) (l0 : Nat) (l2 : Int32) (l3 : Int32) (l4 : Int32) (l5 : Int32) (l6 : Int32) (x1 : Value) (σ : xM) (y : Int32 × xM) (h : f229_154 K38 K109 K119 l0 l2 l3 l4 l5 l6 σ = some y) : Rn (d + 2) 229 154 [.ref l0, x1, .int l2, .int l3, .int l4, .int l5, .int l6] [] σ (some (.int y.1), y.2) := by
  unfold f229_154 at h
  refine rn_steps 2 119 [.ref l0, x1, .int l2, .int l3, .int l4, .int l5, .int (l6 + 1)] [] rfl ?_
  exact hK119 _ _ _ _ _ _ _ _ _ h
noncomputable def f229_119 (K38 : Nat → Int32 → Int32 → Int32 → xM → Option (Int32 × xM)) (K109 : Nat → Int32 → Int32 → Int32 → Int32 → xM → Option (Int32 × xM)) : Nat → Nat → Int32 → Int32 → Int32 → Int32 → Int32 → xM → Option (Int32 × xM)
  | 0, _, _, _, _, _, _, _ => none
  | n + 1, l0, l2, l3, l4, l5, l6, σ =>
    (gR σ l0 9 3).bind fun r1 =>
    (gI σ r1 8 2).bind fun v2 =>
    if v2 ≤ l6 then
    f229_160 K38 K109 l0 l2 l3 l4 l5 σ
    else
    (gR σ l0 9 27).bind fun r3 =>
    (aI σ r3 l5).bind fun v4 =>
    (f157 v4 l6 σ).bind fun y5 =>
    if y5.1 = 0 then
    f229_154 K38 K109 (f229_119 K38 K109 n) l0 l2 l3 l4 l5 l6 y5.2
    else
    (cO y5.2 l0 9).bind fun u7 =>
    (f230 l0 l5 l6 y5.2).bind fun y6 =>
    f229_154 K38 K109 (f229_119 K38 K109 n) l0 l2 l3 l4 l5 l6 y6
set_option maxRecDepth 20000 in
set_option maxHeartbeats 1000000 in
theorem e229_119 (d : Nat) (K38 : Nat → Int32 → Int32 → Int32 → xM → Option (Int32 × xM)) (hK38 : ∀ (l0 : Nat) (l2 : Int32) (l3 : Int32) (l4 : Int32) (x1 x5 x6 : Value) (σ : xM) (y : Int32 × xM), K38 l0 l2 l3 l4 σ = some y → Rn (d + 2) 229 38 [.ref l0, x1, .int l2, .int l3, .int l4, x5, x6] [] σ (some (.int y.1), y.2)) (K109 : Nat → Int32 → Int32 → Int32 → Int32 → xM → Option (Int32 × xM)) (hK109 : ∀ (l0 : Nat) (l2 : Int32) (l3 : Int32) (l4 : Int32) (l5 : Int32) (x1 x6 : Value) (σ : xM) (y : Int32 × xM), K109 l0 l2 l3 l4 l5 σ = some y → Rn (d + 2) 229 109 [.ref l0, x1, .int l2, .int l3, .int l4, .int l5, x6] [] σ (some (.int y.1), y.2)) : ∀ (n : Nat) (l0 : Nat) (l2 : Int32) (l3 : Int32) (l4 : Int32) (l5 : Int32) (l6 : Int32) (x1 : Value) (σ : xM) (y : Int32 × xM), f229_119 K38 K109 n l0 l2 l3 l4 l5 l6 σ = some y → Rn (d + 2) 229 119 [.ref l0, x1, .int l2, .int l3, .int l4, .int l5, .int l6] [] σ (some (.int y.1), y.2) := by
  intro n
  induction n with
  | zero => intro l0 l2 l3 l4 l5 l6 x1 σ y h; cases h
  | succ n ih =>
    intro l0 l2 l3 l4 l5 l6 x1 σ y h
    unfold f229_119 at h
    refine rn_steps 2 122 [.ref l0, x1, .int l2, .int l3, .int l4, .int l5, .int l6] [.ref l0, .int l6] rfl ?_
    obtain ⟨r1, hr1, h⟩ := Option.bind_eq_some_iff.mp h
    refine rn_gR (c := 9) (f := 3) rfl rfl ⟨⟨rfl, rfl⟩, rfl⟩ hr1 ?_
    refine rn_steps 0 125 [.ref l0, x1, .int l2, .int l3, .int l4, .int l5, .int l6] [.ref r1, .int l6] rfl ?_
    obtain ⟨v2, hv2, h⟩ := Option.bind_eq_some_iff.mp h
    refine rn_gI (c := 8) (f := 2) rfl rfl ⟨⟨rfl, rfl⟩, Or.inl rfl⟩ hv2 ?_
    refine rn_steps 0 128 [.ref l0, x1, .int l2, .int l3, .int l4, .int l5, .int l6] [.int v2, .int l6] rfl ?_
    refine rn_br (c := v2 ≤ l6) rfl rfl decide_eq_true_iff (fun hb => ?_) (fun hb => ?_)
    · rw [if_pos hb] at h
      refine rn_steps 0 160 [.ref l0, x1, .int l2, .int l3, .int l4, .int l5, .int l6] [] rfl ?_
      exact e229_160 d _ hK38 _ hK109 _ _ _ _ _ _ _ _ _ h
    · rw [if_neg hb] at h
      refine rn_steps 1 132 [.ref l0, x1, .int l2, .int l3, .int l4, .int l5, .int l6] [.ref l0] rfl ?_
      obtain ⟨r3, hr3, h⟩ := Option.bind_eq_some_iff.mp h
      refine rn_gR (c := 9) (f := 27) rfl rfl ⟨⟨rfl, rfl⟩, rfl⟩ hr3 ?_
      refine rn_steps 1 137 [.ref l0, x1, .int l2, .int l3, .int l4, .int l5, .int l6] [.int l5, .ref r3] rfl ?_
      obtain ⟨v4, hv4, h⟩ := Option.bind_eq_some_iff.mp h
      refine rn_aI rfl hv4 ?_
      refine rn_steps 1 140 [.ref l0, x1, .int l2, .int l3, .int l4, .int l5, .int l6] [.int l6, .int v4] rfl ?_
      obtain ⟨y5, hy5, h⟩ := Option.bind_eq_some_iff.mp h
      refine rn_callS [.int v4, .int l6] rfl rfl rfl ⟨rfl, rfl, rfl⟩ rfl rfl (e157 (d + 1) hy5) ?_
      refine rn_steps 0 143 [.ref l0, x1, .int l2, .int l3, .int l4, .int l5, .int l6] [.int y5.1] rfl ?_
      refine rn_br (c := y5.1 = 0) rfl rfl decide_eq_true_iff (fun hb => ?_) (fun hb => ?_)
      · rw [if_pos hb] at h
        refine rn_steps 0 154 [.ref l0, x1, .int l2, .int l3, .int l4, .int l5, .int l6] [] rfl ?_
        exact e229_154 d _ hK38 _ hK109 _ ih _ _ _ _ _ _ _ _ _ h
      · rw [if_neg hb] at h
        refine rn_steps 3 151 [.ref l0, x1, .int l2, .int l3, .int l4, .int l5, .int l6] [.int l6, .int l5, .ref l0] rfl ?_
        obtain ⟨u7, hu7, h⟩ := Option.bind_eq_some_iff.mp h
        obtain ⟨y6, hy6, h⟩ := Option.bind_eq_some_iff.mp h
        refine rn_callV [.int l5, .int l6] rfl rfl ⟨rfl, rfl⟩ hu7 rfl rfl (e230 d hy6) ?_
        refine rn_steps 0 154 [.ref l0, x1, .int l2, .int l3, .int l4, .int l5, .int l6] [] rfl ?_
        exact e229_154 d _ hK38 _ hK109 _ ih _ _ _ _ _ _ _ _ _ h
noncomputable def f229_109 (K38 : Nat → Int32 → Int32 → Int32 → xM → Option (Int32 × xM)) : Nat → Nat → Int32 → Int32 → Int32 → Int32 → xM → Option (Int32 × xM)
  | 0, _, _, _, _, _, _ => none
  | n + 1, l0, l2, l3, l4, l5, σ =>
    if 64 ≤ l5 then
    f229_166 K38 l0 l2 l3 l4 σ
    else
    f229_119 K38 (f229_109 K38 n) 1100 l0 l2 l3 l4 l5 0 σ
set_option maxRecDepth 20000 in
set_option maxHeartbeats 1000000 in
theorem e229_109 (d : Nat) (K38 : Nat → Int32 → Int32 → Int32 → xM → Option (Int32 × xM)) (hK38 : ∀ (l0 : Nat) (l2 : Int32) (l3 : Int32) (l4 : Int32) (x1 x5 x6 : Value) (σ : xM) (y : Int32 × xM), K38 l0 l2 l3 l4 σ = some y → Rn (d + 2) 229 38 [.ref l0, x1, .int l2, .int l3, .int l4, x5, x6] [] σ (some (.int y.1), y.2)) : ∀ (n : Nat) (l0 : Nat) (l2 : Int32) (l3 : Int32) (l4 : Int32) (l5 : Int32) (x1 x6 : Value) (σ : xM) (y : Int32 × xM), f229_109 K38 n l0 l2 l3 l4 l5 σ = some y → Rn (d + 2) 229 109 [.ref l0, x1, .int l2, .int l3, .int l4, .int l5, x6] [] σ (some (.int y.1), y.2) := by
  intro n
  induction n with
  | zero => intro l0 l2 l3 l4 l5 x1 x6 σ y h; cases h
  | succ n ih =>
    intro l0 l2 l3 l4 l5 x1 x6 σ y h
    unfold f229_109 at h
    refine rn_steps 2 113 [.ref l0, x1, .int l2, .int l3, .int l4, .int l5, x6] [.int 64, .int l5] rfl ?_
    refine rn_br (c := 64 ≤ l5) rfl rfl decide_eq_true_iff (fun hb => ?_) (fun hb => ?_)
    · rw [if_pos hb] at h
      refine rn_steps 0 166 [.ref l0, x1, .int l2, .int l3, .int l4, .int l5, x6] [] rfl ?_
      exact e229_166 d _ hK38 _ _ _ _ _ _ _ _ _ h
    · rw [if_neg hb] at h
      refine rn_steps 2 119 [.ref l0, x1, .int l2, .int l3, .int l4, .int l5, .int 0] [] rfl ?_
      exact e229_119 d _ hK38 _ ih 1100 _ _ _ _ _ _ _ _ _ h
noncomputable def f229_106 (K38 : Nat → Int32 → Int32 → Int32 → xM → Option (Int32 × xM)) (l0 : Nat) (l2 : Int32) (l3 : Int32) (l4 : Int32) (σ : xM) : Option (Int32 × xM) :=
  f229_109 K38 1100 l0 l2 l3 l4 0 σ
set_option maxRecDepth 20000 in
set_option maxHeartbeats 1000000 in
theorem e229_106 (d : Nat) (K38 : Nat → Int32 → Int32 → Int32 → xM → Option (Int32 × xM)) (hK38 : ∀ (l0 : Nat) (l2 : Int32) (l3 : Int32) (l4 : Int32) (x1 x5 x6 : Value) (σ : xM) (y : Int32 × xM), K38 l0 l2 l3 l4 σ = some y → Rn (d + 2) 229 38 [.ref l0, x1, .int l2, .int l3, .int l4, x5, x6] [] σ (some (.int y.1), y.2)) (l0 : Nat) (l2 : Int32) (l3 : Int32) (l4 : Int32) (x1 x5 x6 : Value) (σ : xM) (y : Int32 × xM) (h : f229_106 K38 l0 l2 l3 l4 σ = some y) : Rn (d + 2) 229 106 [.ref l0, x1, .int l2, .int l3, .int l4, x5, x6] [] σ (some (.int y.1), y.2) := by
  unfold f229_106 at h
  refine rn_steps 2 109 [.ref l0, x1, .int l2, .int l3, .int l4, .int 0, x6] [] rfl ?_
  exact e229_109 d _ hK38 1100 _ _ _ _ _ _ _ _ _ h
noncomputable def f229_85 (K38 : Nat → Int32 → Int32 → Int32 → xM → Option (Int32 × xM)) : Nat → Nat → Int32 → Int32 → Int32 → Int32 → xM → Option (Int32 × xM)
  | 0, _, _, _, _, _, _ => none
  | n + 1, l0, l2, l3, l4, l5, σ =>
    if 64 ≤ l5 then
    f229_106 K38 l0 l2 l3 l4 σ
    else
    (gR σ l0 9 28).bind fun r1 =>
    (tI σ r1 l5 0).bind fun σ2 =>
    (f229_85 K38 n) l0 l2 l3 l4 (l5 + 1) σ2
set_option maxRecDepth 20000 in
set_option maxHeartbeats 1000000 in
theorem e229_85 (d : Nat) (K38 : Nat → Int32 → Int32 → Int32 → xM → Option (Int32 × xM)) (hK38 : ∀ (l0 : Nat) (l2 : Int32) (l3 : Int32) (l4 : Int32) (x1 x5 x6 : Value) (σ : xM) (y : Int32 × xM), K38 l0 l2 l3 l4 σ = some y → Rn (d + 2) 229 38 [.ref l0, x1, .int l2, .int l3, .int l4, x5, x6] [] σ (some (.int y.1), y.2)) : ∀ (n : Nat) (l0 : Nat) (l2 : Int32) (l3 : Int32) (l4 : Int32) (l5 : Int32) (x1 x6 : Value) (σ : xM) (y : Int32 × xM), f229_85 K38 n l0 l2 l3 l4 l5 σ = some y → Rn (d + 2) 229 85 [.ref l0, x1, .int l2, .int l3, .int l4, .int l5, x6] [] σ (some (.int y.1), y.2) := by
  intro n
  induction n with
  | zero => intro l0 l2 l3 l4 l5 x1 x6 σ y h; cases h
  | succ n ih =>
    intro l0 l2 l3 l4 l5 x1 x6 σ y h
    unfold f229_85 at h
    refine rn_steps 2 89 [.ref l0, x1, .int l2, .int l3, .int l4, .int l5, x6] [.int 64, .int l5] rfl ?_
    refine rn_br (c := 64 ≤ l5) rfl rfl decide_eq_true_iff (fun hb => ?_) (fun hb => ?_)
    · rw [if_pos hb] at h
      refine rn_steps 0 106 [.ref l0, x1, .int l2, .int l3, .int l4, .int l5, x6] [] rfl ?_
      exact e229_106 d _ hK38 _ _ _ _ _ _ _ _ _ h
    · rw [if_neg hb] at h
      refine rn_steps 1 93 [.ref l0, x1, .int l2, .int l3, .int l4, .int l5, x6] [.ref l0] rfl ?_
      obtain ⟨r1, hr1, h⟩ := Option.bind_eq_some_iff.mp h
      refine rn_gR (c := 9) (f := 28) rfl rfl ⟨⟨rfl, rfl⟩, rfl⟩ hr1 ?_
      refine rn_steps 2 99 [.ref l0, x1, .int l2, .int l3, .int l4, .int l5, x6] [.int 0, .int l5, .ref r1] rfl ?_
      obtain ⟨σ2, hσ2, h⟩ := Option.bind_eq_some_iff.mp h
      refine rn_tI rfl hσ2 ?_
      refine rn_steps 2 85 [.ref l0, x1, .int l2, .int l3, .int l4, .int (l5 + 1), x6] [] rfl ?_
      exact ih _ _ _ _ _ _ _ _ _ h
noncomputable def f229_82 (K38 : Nat → Int32 → Int32 → Int32 → xM → Option (Int32 × xM)) (l0 : Nat) (l2 : Int32) (l3 : Int32) (l4 : Int32) (σ : xM) : Option (Int32 × xM) :=
  f229_85 K38 1100 l0 l2 l3 l4 0 σ
set_option maxRecDepth 20000 in
set_option maxHeartbeats 1000000 in
theorem e229_82 (d : Nat) (K38 : Nat → Int32 → Int32 → Int32 → xM → Option (Int32 × xM)) (hK38 : ∀ (l0 : Nat) (l2 : Int32) (l3 : Int32) (l4 : Int32) (x1 x5 x6 : Value) (σ : xM) (y : Int32 × xM), K38 l0 l2 l3 l4 σ = some y → Rn (d + 2) 229 38 [.ref l0, x1, .int l2, .int l3, .int l4, x5, x6] [] σ (some (.int y.1), y.2)) (l0 : Nat) (l2 : Int32) (l3 : Int32) (l4 : Int32) (x1 x5 x6 : Value) (σ : xM) (y : Int32 × xM) (h : f229_82 K38 l0 l2 l3 l4 σ = some y) : Rn (d + 2) 229 82 [.ref l0, x1, .int l2, .int l3, .int l4, x5, x6] [] σ (some (.int y.1), y.2) := by
  unfold f229_82 at h
  refine rn_steps 2 85 [.ref l0, x1, .int l2, .int l3, .int l4, .int 0, x6] [] rfl ?_
  exact e229_85 d _ hK38 1100 _ _ _ _ _ _ _ _ _ h
noncomputable def f229_76 (K38 : Nat → Int32 → Int32 → Int32 → xM → Option (Int32 × xM)) (K47 : Nat → Int32 → Int32 → Int32 → Int32 → xM → Option (Int32 × xM)) (l0 : Nat) (l2 : Int32) (l3 : Int32) (l4 : Int32) (l5 : Int32) (σ : xM) : Option (Int32 × xM) :=
  K47 l0 l2 l3 l4 (l5 + 1) σ
set_option maxRecDepth 20000 in
set_option maxHeartbeats 1000000 in
theorem e229_76 (d : Nat) (K38 : Nat → Int32 → Int32 → Int32 → xM → Option (Int32 × xM)) (hK38 : ∀ (l0 : Nat) (l2 : Int32) (l3 : Int32) (l4 : Int32) (x1 x5 x6 : Value) (σ : xM) (y : Int32 × xM), K38 l0 l2 l3 l4 σ = some y → Rn (d + 2) 229 38 [.ref l0, x1, .int l2, .int l3, .int l4, x5, x6] [] σ (some (.int y.1), y.2)) (K47 : Nat → Int32 → Int32 → Int32 → Int32 → xM → Option (Int32 × xM)) (hK47 : ∀ (l0 : Nat) (l2 : Int32) (l3 : Int32) (l4 : Int32) (l5 : Int32) (x1 x6 : Value) (σ : xM) (y : Int32 × xM), K47 l0 l2 l3 l4 l5 σ = some y → Rn (d + 2) 229 47 [.ref l0, x1, .int l2, .int l3, .int l4, .int l5, x6] [] σ (some (.int y.1), y.2)) (l0 : Nat) (l2 : Int32) (l3 : Int32) (l4 : Int32) (l5 : Int32) (x1 x6 : Value) (σ : xM) (y : Int32 × xM) (h : f229_76 K38 K47 l0 l2 l3 l4 l5 σ = some y) : Rn (d + 2) 229 76 [.ref l0, x1, .int l2, .int l3, .int l4, .int l5, x6] [] σ (some (.int y.1), y.2) := by
  unfold f229_76 at h
  refine rn_steps 2 47 [.ref l0, x1, .int l2, .int l3, .int l4, .int (l5 + 1), x6] [] rfl ?_
  exact hK47 _ _ _ _ _ _ _ _ _ h
noncomputable def f229_47 (K38 : Nat → Int32 → Int32 → Int32 → xM → Option (Int32 × xM)) : Nat → Nat → Int32 → Int32 → Int32 → Int32 → xM → Option (Int32 × xM)
  | 0, _, _, _, _, _, _ => none
  | n + 1, l0, l2, l3, l4, l5, σ =>
    if 64 ≤ l5 then
    f229_82 K38 l0 l2 l3 l4 σ
    else
    (gR σ l0 9 27).bind fun r1 =>
    (aI σ r1 l5).bind fun v2 =>
    if v2 = 0 then
    f229_76 K38 (f229_47 K38 n) l0 l2 l3 l4 l5 σ
    else
    if (l2 &&& (l5 ^^^ (-1))) = 0 then
    some (l4, σ)
    else
    f229_76 K38 (f229_47 K38 n) l0 l2 l3 l4 l5 σ
set_option maxRecDepth 20000 in
set_option maxHeartbeats 1000000 in
theorem e229_47 (d : Nat) (K38 : Nat → Int32 → Int32 → Int32 → xM → Option (Int32 × xM)) (hK38 : ∀ (l0 : Nat) (l2 : Int32) (l3 : Int32) (l4 : Int32) (x1 x5 x6 : Value) (σ : xM) (y : Int32 × xM), K38 l0 l2 l3 l4 σ = some y → Rn (d + 2) 229 38 [.ref l0, x1, .int l2, .int l3, .int l4, x5, x6] [] σ (some (.int y.1), y.2)) : ∀ (n : Nat) (l0 : Nat) (l2 : Int32) (l3 : Int32) (l4 : Int32) (l5 : Int32) (x1 x6 : Value) (σ : xM) (y : Int32 × xM), f229_47 K38 n l0 l2 l3 l4 l5 σ = some y → Rn (d + 2) 229 47 [.ref l0, x1, .int l2, .int l3, .int l4, .int l5, x6] [] σ (some (.int y.1), y.2) := by
  intro n
  induction n with
  | zero => intro l0 l2 l3 l4 l5 x1 x6 σ y h; cases h
  | succ n ih =>
    intro l0 l2 l3 l4 l5 x1 x6 σ y h
    unfold f229_47 at h
    refine rn_steps 2 51 [.ref l0, x1, .int l2, .int l3, .int l4, .int l5, x6] [.int 64, .int l5] rfl ?_
    refine rn_br (c := 64 ≤ l5) rfl rfl decide_eq_true_iff (fun hb => ?_) (fun hb => ?_)
    · rw [if_pos hb] at h
      refine rn_steps 0 82 [.ref l0, x1, .int l2, .int l3, .int l4, .int l5, x6] [] rfl ?_
      exact e229_82 d _ hK38 _ _ _ _ _ _ _ _ _ h
    · rw [if_neg hb] at h
      refine rn_steps 1 55 [.ref l0, x1, .int l2, .int l3, .int l4, .int l5, x6] [.ref l0] rfl ?_
      obtain ⟨r1, hr1, h⟩ := Option.bind_eq_some_iff.mp h
      refine rn_gR (c := 9) (f := 27) rfl rfl ⟨⟨rfl, rfl⟩, rfl⟩ hr1 ?_
      refine rn_steps 1 60 [.ref l0, x1, .int l2, .int l3, .int l4, .int l5, x6] [.int l5, .ref r1] rfl ?_
      obtain ⟨v2, hv2, h⟩ := Option.bind_eq_some_iff.mp h
      refine rn_aI rfl hv2 ?_
      refine rn_steps 0 61 [.ref l0, x1, .int l2, .int l3, .int l4, .int l5, x6] [.int v2] rfl ?_
      refine rn_br (c := v2 = 0) rfl rfl decide_eq_true_iff (fun hb => ?_) (fun hb => ?_)
      · rw [if_pos hb] at h
        refine rn_steps 0 76 [.ref l0, x1, .int l2, .int l3, .int l4, .int l5, x6] [] rfl ?_
        exact e229_76 d _ hK38 _ ih _ _ _ _ _ _ _ _ _ h
      · rw [if_neg hb] at h
        refine rn_steps 5 70 [.ref l0, x1, .int l2, .int l3, .int l4, .int l5, x6] [.int (l2 &&& (l5 ^^^ (-1)))] rfl ?_
        refine rn_br (c := ¬ (l2 &&& (l5 ^^^ (-1))) = 0) rfl rfl decide_eq_true_iff (fun hb => ?_) (fun hb => ?_)
        · rw [if_neg hb] at h
          refine rn_steps 0 76 [.ref l0, x1, .int l2, .int l3, .int l4, .int l5, x6] [] rfl ?_
          exact e229_76 d _ hK38 _ ih _ _ _ _ _ _ _ _ _ h
        · rw [if_pos (Decidable.not_not.mp hb)] at h
          refine rn_steps 1 75 [.ref l0, x1, .int l2, .int l3, .int l4, .int l5, x6] [.int l4] rfl ?_
          cases h
          exact rn_ret rfl rfl rfl
noncomputable def f229_38 : Nat → Nat → Int32 → Int32 → Int32 → xM → Option (Int32 × xM)
  | 0, _, _, _, _, _ => none
  | n + 1, l0, l2, l3, l4, σ =>
    if l3 < l4 then
    f229_202 σ
    else
    f229_47 (f229_38 n) 1100 l0 l2 l3 l4 0 σ
set_option maxRecDepth 20000 in
set_option maxHeartbeats 1000000 in
theorem e229_38 (d : Nat) : ∀ (n : Nat) (l0 : Nat) (l2 : Int32) (l3 : Int32) (l4 : Int32) (x1 x5 x6 : Value) (σ : xM) (y : Int32 × xM), f229_38 n l0 l2 l3 l4 σ = some y → Rn (d + 2) 229 38 [.ref l0, x1, .int l2, .int l3, .int l4, x5, x6] [] σ (some (.int y.1), y.2) := by
  intro n
  induction n with
  | zero => intro l0 l2 l3 l4 x1 x5 x6 σ y h; cases h
  | succ n ih =>
    intro l0 l2 l3 l4 x1 x5 x6 σ y h
    unfold f229_38 at h
    refine rn_steps 2 41 [.ref l0, x1, .int l2, .int l3, .int l4, x5, x6] [.int l3, .int l4] rfl ?_
    refine rn_br (c := l3 < l4) rfl rfl decide_eq_true_iff (fun hb => ?_) (fun hb => ?_)
    · rw [if_pos hb] at h
      refine rn_steps 0 202 [.ref l0, x1, .int l2, .int l3, .int l4, x5, x6] [] rfl ?_
      exact e229_202 d _ _ _ _ _ _ _ _ _ h
    · rw [if_neg hb] at h
      refine rn_steps 2 47 [.ref l0, x1, .int l2, .int l3, .int l4, .int 0, x6] [] rfl ?_
      exact e229_47 d _ ih 1100 _ _ _ _ _ _ _ _ _ h
noncomputable def f229_24 (l0 : Nat) (l1 : Int32) (l2 : Int32) (l3 : Int32) (σ : xM) : Option (Int32 × xM) :=
  (gR σ l0 9 27).bind fun r1 =>
  (tI σ r1 (1 <<< (l1 &&& 31)) (1 <<< (l1 &&& 31))).bind fun σ2 =>
  f229_38 1100 l0 l2 l3 0 σ2
set_option maxRecDepth 20000 in
set_option maxHeartbeats 1000000 in
theorem e229_24 (d : Nat) (l0 : Nat) (l1 : Int32) (l2 : Int32) (l3 : Int32) (x4 x5 x6 : Value) (σ : xM) (y : Int32 × xM) (h : f229_24 l0 l1 l2 l3 σ = some y) : Rn (d + 2) 229 24 [.ref l0, .int l1, .int l2, .int l3, x4, x5, x6] [] σ (some (.int y.1), y.2) := by
  unfold f229_24 at h
  refine rn_steps 1 25 [.ref l0, .int l1, .int l2, .int l3, x4, x5, x6] [.ref l0] rfl ?_
  obtain ⟨r1, hr1, h⟩ := Option.bind_eq_some_iff.mp h
  refine rn_gR (c := 9) (f := 27) rfl rfl ⟨⟨rfl, rfl⟩, rfl⟩ hr1 ?_
  refine rn_steps 6 34 [.ref l0, .int l1, .int l2, .int l3, x4, x5, x6] [.int (1 <<< (l1 &&& 31)), .int (1 <<< (l1 &&& 31)), .ref r1] rfl ?_
  obtain ⟨σ2, hσ2, h⟩ := Option.bind_eq_some_iff.mp h
  refine rn_tI rfl hσ2 ?_
  refine rn_steps 2 38 [.ref l0, .int l1, .int l2, .int l3, .int 0, x5, x6] [] rfl ?_
  exact e229_38 d 1100 _ _ _ _ _ _ _ _ _ h
noncomputable def f229_3 : Nat → Nat → Int32 → Int32 → Int32 → Int32 → xM → Option (Int32 × xM)
  | 0, _, _, _, _, _, _ => none
  | n + 1, l0, l1, l2, l3, l4, σ =>
    if 64 ≤ l4 then
    f229_24 l0 l1 l2 l3 σ
    else
    (gR σ l0 9 27).bind fun r1 =>
    (tI σ r1 l4 0).bind fun σ2 =>
    (f229_3 n) l0 l1 l2 l3 (l4 + 1) σ2
set_option maxRecDepth 20000 in
set_option maxHeartbeats 1000000 in
theorem e229_3 (d : Nat) : ∀ (n : Nat) (l0 : Nat) (l1 : Int32) (l2 : Int32) (l3 : Int32) (l4 : Int32) (x5 x6 : Value) (σ : xM) (y : Int32 × xM), f229_3 n l0 l1 l2 l3 l4 σ = some y → Rn (d + 2) 229 3 [.ref l0, .int l1, .int l2, .int l3, .int l4, x5, x6] [] σ (some (.int y.1), y.2) := by
  intro n
  induction n with
  | zero => intro l0 l1 l2 l3 l4 x5 x6 σ y h; cases h
  | succ n ih =>
    intro l0 l1 l2 l3 l4 x5 x6 σ y h
    unfold f229_3 at h
    refine rn_steps 2 7 [.ref l0, .int l1, .int l2, .int l3, .int l4, x5, x6] [.int 64, .int l4] rfl ?_
    refine rn_br (c := 64 ≤ l4) rfl rfl decide_eq_true_iff (fun hb => ?_) (fun hb => ?_)
    · rw [if_pos hb] at h
      refine rn_steps 0 24 [.ref l0, .int l1, .int l2, .int l3, .int l4, x5, x6] [] rfl ?_
      exact e229_24 d _ _ _ _ _ _ _ _ _ h
    · rw [if_neg hb] at h
      refine rn_steps 1 11 [.ref l0, .int l1, .int l2, .int l3, .int l4, x5, x6] [.ref l0] rfl ?_
      obtain ⟨r1, hr1, h⟩ := Option.bind_eq_some_iff.mp h
      refine rn_gR (c := 9) (f := 27) rfl rfl ⟨⟨rfl, rfl⟩, rfl⟩ hr1 ?_
      refine rn_steps 2 17 [.ref l0, .int l1, .int l2, .int l3, .int l4, x5, x6] [.int 0, .int l4, .ref r1] rfl ?_
      obtain ⟨σ2, hσ2, h⟩ := Option.bind_eq_some_iff.mp h
      refine rn_tI rfl hσ2 ?_
      refine rn_steps 2 3 [.ref l0, .int l1, .int l2, .int l3, .int (l4 + 1), x5, x6] [] rfl ?_
      exact ih _ _ _ _ _ _ _ _ _ h
/-- LastAskedModel.hoursBy(III)I -/
noncomputable def f229 (l0 : Nat) (l1 : Int32) (l2 : Int32) (l3 : Int32) (σ : xM) : Option (Int32 × xM) :=
  f229_3 1100 l0 l1 l2 l3 0 σ
set_option maxRecDepth 20000 in
set_option maxHeartbeats 1000000 in
theorem e229 (d : Nat) {l0 : Nat} {l1 : Int32} {l2 : Int32} {l3 : Int32} {σ : xM} {y : Int32 × xM} (h : f229 l0 l1 l2 l3 σ = some y) : Rn (d + 2) 229 0 [.ref l0, .int l1, .int l2, .int l3, .retAddr 0, .retAddr 0, .retAddr 0] [] σ (some (.int y.1), y.2) := by
  unfold f229 at h
  refine rn_steps 2 3 [.ref l0, .int l1, .int l2, .int l3, .int 0, .retAddr 0, .retAddr 0] [] rfl ?_
  exact e229_3 d 1100 _ _ _ _ _ _ _ _ _ h
