/-- LastAskedModel.fits()I -/
noncomputable def f241 (l0 : Nat) (σ : xM) : Option (Int32 × xM) :=
  (pI σ l0 9 0 0).bind fun σ1 =>
  (gQ σ1 l0 9 3).bind fun q2 =>
  match q2 with
  | none =>
  (cO σ1 l0 9).bind fun u5 =>
  (f151 l0 1 σ1).bind fun y4 =>
  some (y4.1, y4.2)
  | some b3 =>
  (cO σ1 l0 9).bind fun u10 =>
  (f240 l0 (-1) 0 σ1).bind fun y6 =>
  (gI y6.2 l0 9 33).bind fun v7 =>
  (cO y6.2 l0 9).bind fun u9 =>
  (f154 l0 v7 y6.2).bind fun y8 =>
  some (y8.1, y8.2)
set_option maxRecDepth 20000 in
set_option maxHeartbeats 1000000 in
theorem e241 (d : Nat) {l0 : Nat} {σ : xM} {y : Int32 × xM} (h : f241 l0 σ = some y) : Rn (d + 5) 241 0 [.ref l0] [] σ (some (.int y.1), y.2) := by
  unfold f241 at h
  refine rn_steps 2 2 [.ref l0] [.int 0, .ref l0] rfl ?_
  obtain ⟨σ1, hσ1, h⟩ := Option.bind_eq_some_iff.mp h
  refine rn_pI (c := 9) (f := 0) rfl rfl ⟨⟨rfl, rfl⟩, rfl⟩ hσ1 ?_
  refine rn_steps 1 6 [.ref l0] [.ref l0] rfl ?_
  obtain ⟨q2, hq2, h⟩ := Option.bind_eq_some_iff.mp h
  refine rn_gQ (c := 9) (f := 3) rfl rfl ⟨⟨rfl, rfl⟩, rfl⟩ hq2 ?_
  cases q2 with
  | none =>
    dsimp only at h
    refine rn_steps 3 14 [.ref l0] [.int 1, .ref l0] rfl ?_
    obtain ⟨u5, hu5, h⟩ := Option.bind_eq_some_iff.mp h
    obtain ⟨y4, hy4, h⟩ := Option.bind_eq_some_iff.mp h
    refine rn_callV [.int 1] rfl rfl ⟨rfl, rfl⟩ hu5 rfl rfl (e151 (d + 4) hy4) ?_
    refine rn_steps 0 17 [.ref l0] [.int y4.1] rfl ?_
    cases h
    exact rn_ret rfl rfl rfl
  | some b3 =>
    dsimp only at h
    refine rn_steps 4 21 [.ref l0] [.int 0, .int (-1), .ref l0] rfl ?_
    obtain ⟨u10, hu10, h⟩ := Option.bind_eq_some_iff.mp h
    obtain ⟨y6, hy6, h⟩ := Option.bind_eq_some_iff.mp h
    refine rn_callV [.int (-1), .int 0] rfl rfl ⟨rfl, rfl⟩ hu10 rfl rfl (e240 d hy6) ?_
    refine rn_steps 3 27 [.ref l0] [.ref l0, .ref l0] rfl ?_
    obtain ⟨v7, hv7, h⟩ := Option.bind_eq_some_iff.mp h
    refine rn_gI (c := 9) (f := 33) rfl rfl ⟨⟨rfl, rfl⟩, Or.inl rfl⟩ hv7 ?_
    refine rn_steps 0 30 [.ref l0] [.int v7, .ref l0] rfl ?_
    obtain ⟨u9, hu9, h⟩ := Option.bind_eq_some_iff.mp h
    obtain ⟨y8, hy8, h⟩ := Option.bind_eq_some_iff.mp h
    refine rn_callV [.int v7] rfl rfl ⟨rfl, rfl⟩ hu9 rfl rfl (e154 (d + 4) hy8) ?_
    refine rn_steps 0 33 [.ref l0] [.int y8.1] rfl ?_
    cases h
    exact rn_ret rfl rfl rfl
noncomputable def f242_62 (s0 : Int32) (σ : xM) : Option (Int32 × xM) :=
  some (s0, σ)
set_option maxRecDepth 20000 in
set_option maxHeartbeats 1000000 in
theorem e242_62 (d : Nat) (s0 : Int32) (x0 x1 x2 : Value) (σ : xM) (y : Int32 × xM) (h : f242_62 s0 σ = some y) : Rn (d + 5) 242 62 [x0, x1, x2] [.int s0] σ (some (.int y.1), y.2) := by
  unfold f242_62 at h
  cases h
  exact rn_ret rfl rfl rfl
noncomputable def f242_31 (l0 : Nat) (σ : xM) : Option (Int32 × xM) :=
  (cO σ l0 9).bind fun u2 =>
  (f151 l0 1 σ).bind fun y1 =>
  some (y1.1, y1.2)
set_option maxRecDepth 20000 in
set_option maxHeartbeats 1000000 in
theorem e242_31 (d : Nat) (l0 : Nat) (x1 x2 : Value) (σ : xM) (y : Int32 × xM) (h : f242_31 l0 σ = some y) : Rn (d + 5) 242 31 [.ref l0, x1, x2] [] σ (some (.int y.1), y.2) := by
  unfold f242_31 at h
  refine rn_steps 2 33 [.ref l0, x1, x2] [.int 1, .ref l0] rfl ?_
  obtain ⟨u2, hu2, h⟩ := Option.bind_eq_some_iff.mp h
  obtain ⟨y1, hy1, h⟩ := Option.bind_eq_some_iff.mp h
  refine rn_callV [.int 1] rfl rfl ⟨rfl, rfl⟩ hu2 rfl rfl (e151 (d + 4) hy1) ?_
  refine rn_steps 0 36 [.ref l0, x1, x2] [.int y1.1] rfl ?_
  cases h
  exact rn_ret rfl rfl rfl
/-- LastAskedModel.fitAt(II)I -/
noncomputable def f242 (l0 : Nat) (l1 : Int32) (l2 : Int32) (σ : xM) : Option (Int32 × xM) :=
  (pI σ l0 9 0 0).bind fun σ1 =>
  (gQ σ1 l0 9 3).bind fun q2 =>
  match q2 with
  | none =>
  f242_31 l0 σ1
  | some b3 =>
  if l1 < 0 then
  f242_31 l0 σ1
  else
  if l2 < 0 then
  f242_31 l0 σ1
  else
  (gR σ1 l0 9 3).bind fun r4 =>
  (gI σ1 r4 8 5).bind fun v5 =>
  if l2 < v5 then
  (cO σ1 l0 9).bind fun u12 =>
  (f240 l0 l1 l2 σ1).bind fun y6 =>
  if y6.1 = 0 then
  (cO y6.2 l0 9).bind fun u8 =>
  (f151 l0 1 y6.2).bind fun y7 =>
  f242_62 y7.1 y7.2
  else
  (gI y6.2 l0 9 34).bind fun v9 =>
  (cO y6.2 l0 9).bind fun u11 =>
  (f154 l0 v9 y6.2).bind fun y10 =>
  f242_62 y10.1 y10.2
  else
  f242_31 l0 σ1
set_option maxRecDepth 20000 in
set_option maxHeartbeats 1000000 in
theorem e242 (d : Nat) {l0 : Nat} {l1 : Int32} {l2 : Int32} {σ : xM} {y : Int32 × xM} (h : f242 l0 l1 l2 σ = some y) : Rn (d + 5) 242 0 [.ref l0, .int l1, .int l2] [] σ (some (.int y.1), y.2) := by
  unfold f242 at h
  refine rn_steps 2 2 [.ref l0, .int l1, .int l2] [.int 0, .ref l0] rfl ?_
  obtain ⟨σ1, hσ1, h⟩ := Option.bind_eq_some_iff.mp h
  refine rn_pI (c := 9) (f := 0) rfl rfl ⟨⟨rfl, rfl⟩, rfl⟩ hσ1 ?_
  refine rn_steps 1 6 [.ref l0, .int l1, .int l2] [.ref l0] rfl ?_
  obtain ⟨q2, hq2, h⟩ := Option.bind_eq_some_iff.mp h
  refine rn_gQ (c := 9) (f := 3) rfl rfl ⟨⟨rfl, rfl⟩, rfl⟩ hq2 ?_
  cases q2 with
  | none =>
    dsimp only at h
    refine rn_steps 1 31 [.ref l0, .int l1, .int l2] [] rfl ?_
    exact e242_31 d _ _ _ _ _ h
  | some b3 =>
    dsimp only at h
    refine rn_steps 2 13 [.ref l0, .int l1, .int l2] [.int l1] rfl ?_
    refine rn_br (c := l1 < 0) rfl rfl decide_eq_true_iff (fun hb => ?_) (fun hb => ?_)
    · rw [if_pos hb] at h
      refine rn_steps 0 31 [.ref l0, .int l1, .int l2] [] rfl ?_
      exact e242_31 d _ _ _ _ _ h
    · rw [if_neg hb] at h
      refine rn_steps 1 17 [.ref l0, .int l1, .int l2] [.int l2] rfl ?_
      refine rn_br (c := l2 < 0) rfl rfl decide_eq_true_iff (fun hb => ?_) (fun hb => ?_)
      · rw [if_pos hb] at h
        refine rn_steps 0 31 [.ref l0, .int l1, .int l2] [] rfl ?_
        exact e242_31 d _ _ _ _ _ h
      · rw [if_neg hb] at h
        refine rn_steps 2 22 [.ref l0, .int l1, .int l2] [.ref l0, .int l2] rfl ?_
        obtain ⟨r4, hr4, h⟩ := Option.bind_eq_some_iff.mp h
        refine rn_gR (c := 9) (f := 3) rfl rfl ⟨⟨rfl, rfl⟩, rfl⟩ hr4 ?_
        refine rn_steps 0 25 [.ref l0, .int l1, .int l2] [.ref r4, .int l2] rfl ?_
        obtain ⟨v5, hv5, h⟩ := Option.bind_eq_some_iff.mp h
        refine rn_gI (c := 8) (f := 5) rfl rfl ⟨⟨rfl, rfl⟩, Or.inl rfl⟩ hv5 ?_
        refine rn_steps 0 28 [.ref l0, .int l1, .int l2] [.int v5, .int l2] rfl ?_
        refine rn_br (c := l2 < v5) rfl rfl decide_eq_true_iff (fun hb => ?_) (fun hb => ?_)
        · rw [if_pos hb] at h
          refine rn_steps 3 40 [.ref l0, .int l1, .int l2] [.int l2, .int l1, .ref l0] rfl ?_
          obtain ⟨u12, hu12, h⟩ := Option.bind_eq_some_iff.mp h
          obtain ⟨y6, hy6, h⟩ := Option.bind_eq_some_iff.mp h
          refine rn_callV [.int l1, .int l2] rfl rfl ⟨rfl, rfl⟩ hu12 rfl rfl (e240 d hy6) ?_
          refine rn_steps 0 43 [.ref l0, .int l1, .int l2] [.int y6.1] rfl ?_
          refine rn_br (c := y6.1 = 0) rfl rfl decide_eq_true_iff (fun hb => ?_) (fun hb => ?_)
          · rw [if_pos hb] at h
            refine rn_steps 2 59 [.ref l0, .int l1, .int l2] [.int 1, .ref l0] rfl ?_
            obtain ⟨u8, hu8, h⟩ := Option.bind_eq_some_iff.mp h
            obtain ⟨y7, hy7, h⟩ := Option.bind_eq_some_iff.mp h
            refine rn_callV [.int 1] rfl rfl ⟨rfl, rfl⟩ hu8 rfl rfl (e151 (d + 4) hy7) ?_
            refine rn_steps 0 62 [.ref l0, .int l1, .int l2] [.int y7.1] rfl ?_
            exact e242_62 d _ _ _ _ _ _ h
          · rw [if_neg hb] at h
            refine rn_steps 2 48 [.ref l0, .int l1, .int l2] [.ref l0, .ref l0] rfl ?_
            obtain ⟨v9, hv9, h⟩ := Option.bind_eq_some_iff.mp h
            refine rn_gI (c := 9) (f := 34) rfl rfl ⟨⟨rfl, rfl⟩, Or.inl rfl⟩ hv9 ?_
            refine rn_steps 0 51 [.ref l0, .int l1, .int l2] [.int v9, .ref l0] rfl ?_
            obtain ⟨u11, hu11, h⟩ := Option.bind_eq_some_iff.mp h
            obtain ⟨y10, hy10, h⟩ := Option.bind_eq_some_iff.mp h
            refine rn_callV [.int v9] rfl rfl ⟨rfl, rfl⟩ hu11 rfl rfl (e154 (d + 4) hy10) ?_
            refine rn_steps 1 62 [.ref l0, .int l1, .int l2] [.int y10.1] rfl ?_
            exact e242_62 d _ _ _ _ _ _ h
        · rw [if_neg hb] at h
          refine rn_steps 0 31 [.ref l0, .int l1, .int l2] [] rfl ?_
          exact e242_31 d _ _ _ _ _ h
/-- LastAskedModel.heirBy(II)I -/
noncomputable def f243 (l0 : Nat) (l1 : Int32) (l2 : Int32) (σ : xM) : Option (Int32 × xM) :=
  (pI σ l0 9 0 0).bind fun σ1 =>
  (cO σ1 l0 9).bind fun u11 =>
  (f187 l0 l1 l2 σ1).bind fun y2 =>
  if y2.1 = 0 then
  (cO y2.2 l0 9).bind fun u10 =>
  (f151 l0 1 y2.2).bind fun y9 =>
  some (y9.1, y9.2)
  else
  (cO y2.2 l0 9).bind fun u8 =>
  (f240 l0 (-1) 0 y2.2).bind fun y3 =>
  (gR y3.2 l0 9 32).bind fun r4 =>
  (aI y3.2 r4 ((6 * l1) + l2)).bind fun v5 =>
  (cO y3.2 l0 9).bind fun u7 =>
  (f154 l0 v5 y3.2).bind fun y6 =>
  some (y6.1, y6.2)
set_option maxRecDepth 20000 in
set_option maxHeartbeats 1000000 in
theorem e243 (d : Nat) {l0 : Nat} {l1 : Int32} {l2 : Int32} {σ : xM} {y : Int32 × xM} (h : f243 l0 l1 l2 σ = some y) : Rn (d + 5) 243 0 [.ref l0, .int l1, .int l2] [] σ (some (.int y.1), y.2) := by
  unfold f243 at h
  refine rn_steps 2 2 [.ref l0, .int l1, .int l2] [.int 0, .ref l0] rfl ?_
  obtain ⟨σ1, hσ1, h⟩ := Option.bind_eq_some_iff.mp h
  refine rn_pI (c := 9) (f := 0) rfl rfl ⟨⟨rfl, rfl⟩, rfl⟩ hσ1 ?_
  refine rn_steps 3 8 [.ref l0, .int l1, .int l2] [.int l2, .int l1, .ref l0] rfl ?_
  obtain ⟨u11, hu11, h⟩ := Option.bind_eq_some_iff.mp h
  obtain ⟨y2, hy2, h⟩ := Option.bind_eq_some_iff.mp h
  refine rn_callV [.int l1, .int l2] rfl rfl ⟨rfl, rfl⟩ hu11 rfl rfl (e187 (d + 3) hy2) ?_
  refine rn_steps 0 11 [.ref l0, .int l1, .int l2] [.int y2.1] rfl ?_
  refine rn_br (c := ¬ y2.1 = 0) rfl rfl decide_eq_true_iff (fun hb => ?_) (fun hb => ?_)
  · rw [if_neg hb] at h
    refine rn_steps 3 23 [.ref l0, .int l1, .int l2] [.int 0, .int (-1), .ref l0] rfl ?_
    obtain ⟨u8, hu8, h⟩ := Option.bind_eq_some_iff.mp h
    obtain ⟨y3, hy3, h⟩ := Option.bind_eq_some_iff.mp h
    refine rn_callV [.int (-1), .int 0] rfl rfl ⟨rfl, rfl⟩ hu8 rfl rfl (e240 d hy3) ?_
    refine rn_steps 3 29 [.ref l0, .int l1, .int l2] [.ref l0, .ref l0] rfl ?_
    obtain ⟨r4, hr4, h⟩ := Option.bind_eq_some_iff.mp h
    refine rn_gR (c := 9) (f := 32) rfl rfl ⟨⟨rfl, rfl⟩, rfl⟩ hr4 ?_
    refine rn_steps 5 38 [.ref l0, .int l1, .int l2] [.int ((6 * l1) + l2), .ref r4, .ref l0] rfl ?_
    obtain ⟨v5, hv5, h⟩ := Option.bind_eq_some_iff.mp h
    refine rn_aI rfl hv5 ?_
    refine rn_steps 0 39 [.ref l0, .int l1, .int l2] [.int v5, .ref l0] rfl ?_
    obtain ⟨u7, hu7, h⟩ := Option.bind_eq_some_iff.mp h
    obtain ⟨y6, hy6, h⟩ := Option.bind_eq_some_iff.mp h
    refine rn_callV [.int v5] rfl rfl ⟨rfl, rfl⟩ hu7 rfl rfl (e154 (d + 4) hy6) ?_
    refine rn_steps 0 42 [.ref l0, .int l1, .int l2] [.int y6.1] rfl ?_
    cases h
    exact rn_ret rfl rfl rfl
  · rw [if_pos (Decidable.not_not.mp hb)] at h
    refine rn_steps 2 16 [.ref l0, .int l1, .int l2] [.int 1, .ref l0] rfl ?_
    obtain ⟨u10, hu10, h⟩ := Option.bind_eq_some_iff.mp h
    obtain ⟨y9, hy9, h⟩ := Option.bind_eq_some_iff.mp h
    refine rn_callV [.int 1] rfl rfl ⟨rfl, rfl⟩ hu10 rfl rfl (e151 (d + 4) hy9) ?_
    refine rn_steps 0 19 [.ref l0, .int l1, .int l2] [.int y9.1] rfl ?_
    cases h
    exact rn_ret rfl rfl rfl
noncomputable def f244_113 (l1 : Int32) (σ : xM) : Option (Int32 × xM) :=
  some (l1, σ)
set_option maxRecDepth 20000 in
set_option maxHeartbeats 1000000 in
theorem e244_113 (d : Nat) (l1 : Int32) (x0 x2 x3 x4 : Value) (σ : xM) (y : Int32 × xM) (h : f244_113 l1 σ = some y) : Rn (d + 5) 244 113 [x0, .int l1, x2, x3, x4] [] σ (some (.int y.1), y.2) := by
  unfold f244_113 at h
  refine rn_steps 1 114 [x0, .int l1, x2, x3, x4] [.int l1] rfl ?_
  cases h
  exact rn_ret rfl rfl rfl
noncomputable def f244_107 (K18 : Nat → Int32 → Int32 → xM → Option (Int32 × xM)) (l0 : Nat) (l1 : Int32) (l2 : Int32) (σ : xM) : Option (Int32 × xM) :=
  K18 l0 l1 (l2 + 1) σ
set_option maxRecDepth 20000 in
set_option maxHeartbeats 1000000 in
theorem e244_107 (d : Nat) (K18 : Nat → Int32 → Int32 → xM → Option (Int32 × xM)) (hK18 : ∀ (l0 : Nat) (l1 : Int32) (l2 : Int32) (x3 x4 : Value) (σ : xM) (y : Int32 × xM), K18 l0 l1 l2 σ = some y → Rn (d + 5) 244 18 [.ref l0, .int l1, .int l2, x3, x4] [] σ (some (.int y.1), y.2)) (l0 : Nat) (l1 : Int32) (l2 : Int32) (x3 x4 : Value) (σ : xM) (y : Int32 × xM) (h : f244_107 K18 l0 l1 l2 σ = some y) : Rn (d + 5) 244 107 [.ref l0, .int l1, .int l2, x3, x4] [] σ (some (.int y.1), y.2) := by
  unfold f244_107 at h
  refine rn_steps 2 18 [.ref l0, .int l1, .int (l2 + 1), x3, x4] [] rfl ?_
  exact hK18 _ _ _ _ _ _ _ h
noncomputable def f244_100 (K18 : Nat → Int32 → Int32 → xM → Option (Int32 × xM)) (l0 : Nat) (l2 : Int32) (l3 : Int32) (σ : xM) : Option (Int32 × xM) :=
  (pI σ l0 9 35 l3).bind fun σ1 =>
  f244_107 K18 l0 l2 l2 σ1
set_option maxRecDepth 20000 in
set_option maxHeartbeats 1000000 in
theorem e244_100 (d : Nat) (K18 : Nat → Int32 → Int32 → xM → Option (Int32 × xM)) (hK18 : ∀ (l0 : Nat) (l1 : Int32) (l2 : Int32) (x3 x4 : Value) (σ : xM) (y : Int32 × xM), K18 l0 l1 l2 σ = some y → Rn (d + 5) 244 18 [.ref l0, .int l1, .int l2, x3, x4] [] σ (some (.int y.1), y.2)) (l0 : Nat) (l2 : Int32) (l3 : Int32) (x1 x4 : Value) (σ : xM) (y : Int32 × xM) (h : f244_100 K18 l0 l2 l3 σ = some y) : Rn (d + 5) 244 100 [.ref l0, x1, .int l2, .int l3, x4] [] σ (some (.int y.1), y.2) := by
  unfold f244_100 at h
  refine rn_steps 4 104 [.ref l0, .int l2, .int l2, .int l3, x4] [.int l3, .ref l0] rfl ?_
  obtain ⟨σ1, hσ1, h⟩ := Option.bind_eq_some_iff.mp h
  refine rn_pI (c := 9) (f := 35) rfl rfl ⟨⟨rfl, rfl⟩, rfl⟩ hσ1 ?_
  refine rn_steps 0 107 [.ref l0, .int l2, .int l2, .int l3, x4] [] rfl ?_
  exact e244_107 d _ hK18 _ _ _ _ _ _ _ h
noncomputable def f244_83 (K18 : Nat → Int32 → Int32 → xM → Option (Int32 × xM)) (l0 : Nat) (l1 : Int32) (l2 : Int32) (l3 : Int32) (σ : xM) : Option (Int32 × xM) :=
  if l1 = (-2) then
  f244_100 K18 l0 l2 l3 σ
  else
  (gI σ l0 9 35).bind fun v1 =>
  if l3 < v1 then
  f244_100 K18 l0 l2 l3 σ
  else
  f244_107 K18 l0 l1 l2 σ
set_option maxRecDepth 20000 in
set_option maxHeartbeats 1000000 in
theorem e244_83 (d : Nat) (K18 : Nat → Int32 → Int32 → xM → Option (Int32 × xM)) (hK18 : ∀ (l0 : Nat) (l1 : Int32) (l2 : Int32) (x3 x4 : Value) (σ : xM) (y : Int32 × xM), K18 l0 l1 l2 σ = some y → Rn (d + 5) 244 18 [.ref l0, .int l1, .int l2, x3, x4] [] σ (some (.int y.1), y.2)) (l0 : Nat) (l1 : Int32) (l2 : Int32) (l3 : Int32) (x4 : Value) (σ : xM) (y : Int32 × xM) (h : f244_83 K18 l0 l1 l2 l3 σ = some y) : Rn (d + 5) 244 83 [.ref l0, .int l1, .int l2, .int l3, x4] [] σ (some (.int y.1), y.2) := by
  unfold f244_83 at h
  refine rn_steps 2 86 [.ref l0, .int l1, .int l2, .int l3, x4] [.int (-2), .int l1] rfl ?_
  refine rn_br (c := l1 = (-2)) rfl rfl decide_eq_true_iff (fun hb => ?_) (fun hb => ?_)
  · rw [if_pos hb] at h
    refine rn_steps 0 100 [.ref l0, .int l1, .int l2, .int l3, x4] [] rfl ?_
    exact e244_100 d _ hK18 _ _ _ _ _ _ _ h
  · rw [if_neg hb] at h
    refine rn_steps 2 91 [.ref l0, .int l1, .int l2, .int l3, x4] [.ref l0, .int l3] rfl ?_
    obtain ⟨v1, hv1, h⟩ := Option.bind_eq_some_iff.mp h
    refine rn_gI (c := 9) (f := 35) rfl rfl ⟨⟨rfl, rfl⟩, Or.inl rfl⟩ hv1 ?_
    refine rn_steps 0 94 [.ref l0, .int l1, .int l2, .int l3, x4] [.int v1, .int l3] rfl ?_
    refine rn_br (c := l3 < v1) rfl rfl decide_eq_true_iff (fun hb => ?_) (fun hb => ?_)
    · rw [if_pos hb] at h
      refine rn_steps 0 100 [.ref l0, .int l1, .int l2, .int l3, x4] [] rfl ?_
      exact e244_100 d _ hK18 _ _ _ _ _ _ _ h
    · rw [if_neg hb] at h
      refine rn_steps 1 107 [.ref l0, .int l1, .int l2, .int l3, x4] [] rfl ?_
      exact e244_107 d _ hK18 _ _ _ _ _ _ _ h
noncomputable def f244_77 (K18 : Nat → Int32 → Int32 → xM → Option (Int32 × xM)) (K41 : Nat → Int32 → Int32 → Int32 → Int32 → xM → Option (Int32 × xM)) (l0 : Nat) (l1 : Int32) (l2 : Int32) (l3 : Int32) (l4 : Int32) (σ : xM) : Option (Int32 × xM) :=
  K41 l0 l1 l2 l3 (l4 + 1) σ
set_option maxRecDepth 20000 in
set_option maxHeartbeats 1000000 in
theorem e244_77 (d : Nat) (K18 : Nat → Int32 → Int32 → xM → Option (Int32 × xM)) (hK18 : ∀ (l0 : Nat) (l1 : Int32) (l2 : Int32) (x3 x4 : Value) (σ : xM) (y : Int32 × xM), K18 l0 l1 l2 σ = some y → Rn (d + 5) 244 18 [.ref l0, .int l1, .int l2, x3, x4] [] σ (some (.int y.1), y.2)) (K41 : Nat → Int32 → Int32 → Int32 → Int32 → xM → Option (Int32 × xM)) (hK41 : ∀ (l0 : Nat) (l1 : Int32) (l2 : Int32) (l3 : Int32) (l4 : Int32) (σ : xM) (y : Int32 × xM), K41 l0 l1 l2 l3 l4 σ = some y → Rn (d + 5) 244 41 [.ref l0, .int l1, .int l2, .int l3, .int l4] [] σ (some (.int y.1), y.2)) (l0 : Nat) (l1 : Int32) (l2 : Int32) (l3 : Int32) (l4 : Int32) (σ : xM) (y : Int32 × xM) (h : f244_77 K18 K41 l0 l1 l2 l3 l4 σ = some y) : Rn (d + 5) 244 77 [.ref l0, .int l1, .int l2, .int l3, .int l4] [] σ (some (.int y.1), y.2) := by
  unfold f244_77 at h
  refine rn_steps 2 41 [.ref l0, .int l1, .int l2, .int l3, .int (l4 + 1)] [] rfl ?_
  exact hK41 _ _ _ _ _ _ _ h
noncomputable def f244_41 (K18 : Nat → Int32 → Int32 → xM → Option (Int32 × xM)) : Nat → Nat → Int32 → Int32 → Int32 → Int32 → xM → Option (Int32 × xM)
  | 0, _, _, _, _, _, _ => none
  | n + 1, l0, l1, l2, l3, l4, σ =>
    if 7 ≤ l4 then
    f244_83 K18 l0 l1 l2 l3 σ
    else
    (gR σ l0 9 31).bind fun r1 =>
    (aI σ r1 ((7 * l2) + l4)).bind fun v2 =>
    if v2 ≤ l3 then
    f244_77 K18 (f244_41 K18 n) l0 l1 l2 l3 l4 σ
    else
    (gR σ l0 9 31).bind fun r3 =>
    (aI σ r3 ((7 * l2) + l4)).bind fun v4 =>
    f244_77 K18 (f244_41 K18 n) l0 l1 l2 v4 l4 σ
set_option maxRecDepth 20000 in
set_option maxHeartbeats 1000000 in
theorem e244_41 (d : Nat) (K18 : Nat → Int32 → Int32 → xM → Option (Int32 × xM)) (hK18 : ∀ (l0 : Nat) (l1 : Int32) (l2 : Int32) (x3 x4 : Value) (σ : xM) (y : Int32 × xM), K18 l0 l1 l2 σ = some y → Rn (d + 5) 244 18 [.ref l0, .int l1, .int l2, x3, x4] [] σ (some (.int y.1), y.2)) : ∀ (n : Nat) (l0 : Nat) (l1 : Int32) (l2 : Int32) (l3 : Int32) (l4 : Int32) (σ : xM) (y : Int32 × xM), f244_41 K18 n l0 l1 l2 l3 l4 σ = some y → Rn (d + 5) 244 41 [.ref l0, .int l1, .int l2, .int l3, .int l4] [] σ (some (.int y.1), y.2) := by
  intro n
  induction n with
  | zero => intro l0 l1 l2 l3 l4 σ y h; cases h
  | succ n ih =>
    intro l0 l1 l2 l3 l4 σ y h
    unfold f244_41 at h
    refine rn_steps 2 45 [.ref l0, .int l1, .int l2, .int l3, .int l4] [.int 7, .int l4] rfl ?_
    refine rn_br (c := 7 ≤ l4) rfl rfl decide_eq_true_iff (fun hb => ?_) (fun hb => ?_)
    · rw [if_pos hb] at h
      refine rn_steps 0 83 [.ref l0, .int l1, .int l2, .int l3, .int l4] [] rfl ?_
      exact e244_83 d _ hK18 _ _ _ _ _ _ _ h
    · rw [if_neg hb] at h
      refine rn_steps 1 49 [.ref l0, .int l1, .int l2, .int l3, .int l4] [.ref l0] rfl ?_
      obtain ⟨r1, hr1, h⟩ := Option.bind_eq_some_iff.mp h
      refine rn_gR (c := 9) (f := 31) rfl rfl ⟨⟨rfl, rfl⟩, rfl⟩ hr1 ?_
      refine rn_steps 5 59 [.ref l0, .int l1, .int l2, .int l3, .int l4] [.int ((7 * l2) + l4), .ref r1] rfl ?_
      obtain ⟨v2, hv2, h⟩ := Option.bind_eq_some_iff.mp h
      refine rn_aI rfl hv2 ?_
      refine rn_steps 1 61 [.ref l0, .int l1, .int l2, .int l3, .int l4] [.int l3, .int v2] rfl ?_
      refine rn_br (c := v2 ≤ l3) rfl rfl decide_eq_true_iff (fun hb => ?_) (fun hb => ?_)
      · rw [if_pos hb] at h
        refine rn_steps 0 77 [.ref l0, .int l1, .int l2, .int l3, .int l4] [] rfl ?_
        exact e244_77 d _ hK18 _ ih _ _ _ _ _ _ _ h
      · rw [if_neg hb] at h
        refine rn_steps 1 65 [.ref l0, .int l1, .int l2, .int l3, .int l4] [.ref l0] rfl ?_
        obtain ⟨r3, hr3, h⟩ := Option.bind_eq_some_iff.mp h
        refine rn_gR (c := 9) (f := 31) rfl rfl ⟨⟨rfl, rfl⟩, rfl⟩ hr3 ?_
        refine rn_steps 5 75 [.ref l0, .int l1, .int l2, .int l3, .int l4] [.int ((7 * l2) + l4), .ref r3] rfl ?_
        obtain ⟨v4, hv4, h⟩ := Option.bind_eq_some_iff.mp h
        refine rn_aI rfl hv4 ?_
        refine rn_steps 1 77 [.ref l0, .int l1, .int l2, .int v4, .int l4] [] rfl ?_
        exact e244_77 d _ hK18 _ ih _ _ _ _ _ _ _ h
noncomputable def f244_18 : Nat → Nat → Int32 → Int32 → xM → Option (Int32 × xM)
  | 0, _, _, _, _ => none
  | n + 1, l0, l1, l2, σ =>
    (gR σ l0 9 3).bind fun r1 =>
    (gI σ r1 8 5).bind fun v2 =>
    if v2 ≤ l2 then
    f244_113 l1 σ
    else
    (gI σ l0 9 33).bind fun v3 =>
    if v3 ≤ 0 then
    f244_113 l1 σ
    else
    f244_41 (f244_18 n) 1100 l0 l1 l2 0 0 σ
set_option maxRecDepth 20000 in
set_option maxHeartbeats 1000000 in
theorem e244_18 (d : Nat) : ∀ (n : Nat) (l0 : Nat) (l1 : Int32) (l2 : Int32) (x3 x4 : Value) (σ : xM) (y : Int32 × xM), f244_18 n l0 l1 l2 σ = some y → Rn (d + 5) 244 18 [.ref l0, .int l1, .int l2, x3, x4] [] σ (some (.int y.1), y.2) := by
  intro n
  induction n with
  | zero => intro l0 l1 l2 x3 x4 σ y h; cases h
  | succ n ih =>
    intro l0 l1 l2 x3 x4 σ y h
    unfold f244_18 at h
    refine rn_steps 2 20 [.ref l0, .int l1, .int l2, x3, x4] [.ref l0, .int l2] rfl ?_
    obtain ⟨r1, hr1, h⟩ := Option.bind_eq_some_iff.mp h
    refine rn_gR (c := 9) (f := 3) rfl rfl ⟨⟨rfl, rfl⟩, rfl⟩ hr1 ?_
    refine rn_steps 0 23 [.ref l0, .int l1, .int l2, x3, x4] [.ref r1, .int l2] rfl ?_
    obtain ⟨v2, hv2, h⟩ := Option.bind_eq_some_iff.mp h
    refine rn_gI (c := 8) (f := 5) rfl rfl ⟨⟨rfl, rfl⟩, Or.inl rfl⟩ hv2 ?_
    refine rn_steps 0 26 [.ref l0, .int l1, .int l2, x3, x4] [.int v2, .int l2] rfl ?_
    refine rn_br (c := v2 ≤ l2) rfl rfl decide_eq_true_iff (fun hb => ?_) (fun hb => ?_)
    · rw [if_pos hb] at h
      refine rn_steps 0 113 [.ref l0, .int l1, .int l2, x3, x4] [] rfl ?_
      exact e244_113 d _ _ _ _ _ _ _ h
    · rw [if_neg hb] at h
      refine rn_steps 1 30 [.ref l0, .int l1, .int l2, x3, x4] [.ref l0] rfl ?_
      obtain ⟨v3, hv3, h⟩ := Option.bind_eq_some_iff.mp h
      refine rn_gI (c := 9) (f := 33) rfl rfl ⟨⟨rfl, rfl⟩, Or.inl rfl⟩ hv3 ?_
      refine rn_steps 0 33 [.ref l0, .int l1, .int l2, x3, x4] [.int v3] rfl ?_
      refine rn_br (c := v3 ≤ 0) rfl rfl decide_eq_true_iff (fun hb => ?_) (fun hb => ?_)
      · rw [if_pos hb] at h
        refine rn_steps 0 113 [.ref l0, .int l1, .int l2, x3, x4] [] rfl ?_
        exact e244_113 d _ _ _ _ _ _ _ h
      · rw [if_neg hb] at h
        refine rn_steps 4 41 [.ref l0, .int l1, .int l2, .int 0, .int 0] [] rfl ?_
        exact e244_41 d _ ih 1100 _ _ _ _ _ _ _ h
/-- LastAskedModel.looks()I -/
noncomputable def f244 (l0 : Nat) (σ : xM) : Option (Int32 × xM) :=
  (cO σ l0 9).bind fun u3 =>
  (f240 l0 (-1) 0 σ).bind fun y1 =>
  (pI y1.2 l0 9 35 (-2)).bind fun σ2 =>
  f244_18 1100 l0 (-2) 0 σ2
set_option maxRecDepth 20000 in
set_option maxHeartbeats 1000000 in
theorem e244 (d : Nat) {l0 : Nat} {σ : xM} {y : Int32 × xM} (h : f244 l0 σ = some y) : Rn (d + 5) 244 0 [.ref l0, .retAddr 0, .retAddr 0, .retAddr 0, .retAddr 0] [] σ (some (.int y.1), y.2) := by
  unfold f244 at h
  refine rn_steps 3 3 [.ref l0, .retAddr 0, .retAddr 0, .retAddr 0, .retAddr 0] [.int 0, .int (-1), .ref l0] rfl ?_
  obtain ⟨u3, hu3, h⟩ := Option.bind_eq_some_iff.mp h
  obtain ⟨y1, hy1, h⟩ := Option.bind_eq_some_iff.mp h
  refine rn_callV [.int (-1), .int 0] rfl rfl ⟨rfl, rfl⟩ hu3 rfl rfl (e240 d hy1) ?_
  refine rn_steps 5 13 [.ref l0, .int (-2), .retAddr 0, .retAddr 0, .retAddr 0] [.int (-2), .ref l0] rfl ?_
  obtain ⟨σ2, hσ2, h⟩ := Option.bind_eq_some_iff.mp h
  refine rn_pI (c := 9) (f := 35) rfl rfl ⟨⟨rfl, rfl⟩, rfl⟩ hσ2 ?_
  refine rn_steps 2 18 [.ref l0, .int (-2), .int 0, .retAddr 0, .retAddr 0] [] rfl ?_
  exact e244_18 d 1100 _ _ _ _ _ _ _ h
noncomputable def f245_28 (s0 : Int32) (σ : xM) : Option (Int32 × xM) :=
  some (s0, σ)
set_option maxRecDepth 20000 in
set_option maxHeartbeats 1000000 in
theorem e245_28 (d : Nat) (s0 : Int32) (x0 : Value) (σ : xM) (y : Int32 × xM) (h : f245_28 s0 σ = some y) : Rn (d + 6) 245 28 [x0] [.int s0] σ (some (.int y.1), y.2) := by
  unfold f245_28 at h
  cases h
  exact rn_ret rfl rfl rfl
/-- LastAskedModel.look()I -/
noncomputable def f245 (l0 : Nat) (σ : xM) : Option (Int32 × xM) :=
  (pI σ l0 9 0 0).bind fun σ1 =>
  (gQ σ1 l0 9 3).bind fun q2 =>
  match q2 with
  | none =>
  (cO σ1 l0 9).bind fun u5 =>
  (f151 l0 1 σ1).bind fun y4 =>
  f245_28 y4.1 y4.2
  | some b3 =>
  (cO σ1 l0 9).bind fun u9 =>
  (f244 l0 σ1).bind fun y6 =>
  (cO y6.2 l0 9).bind fun u8 =>
  (f154 l0 y6.1 y6.2).bind fun y7 =>
  f245_28 y7.1 y7.2
set_option maxRecDepth 20000 in
set_option maxHeartbeats 1000000 in
theorem e245 (d : Nat) {l0 : Nat} {σ : xM} {y : Int32 × xM} (h : f245 l0 σ = some y) : Rn (d + 6) 245 0 [.ref l0] [] σ (some (.int y.1), y.2) := by
  unfold f245 at h
  refine rn_steps 2 2 [.ref l0] [.int 0, .ref l0] rfl ?_
  obtain ⟨σ1, hσ1, h⟩ := Option.bind_eq_some_iff.mp h
  refine rn_pI (c := 9) (f := 0) rfl rfl ⟨⟨rfl, rfl⟩, rfl⟩ hσ1 ?_
  refine rn_steps 1 6 [.ref l0] [.ref l0] rfl ?_
  obtain ⟨q2, hq2, h⟩ := Option.bind_eq_some_iff.mp h
  refine rn_gQ (c := 9) (f := 3) rfl rfl ⟨⟨rfl, rfl⟩, rfl⟩ hq2 ?_
  cases q2 with
  | none =>
    dsimp only at h
    refine rn_steps 3 14 [.ref l0] [.int 1, .ref l0] rfl ?_
    obtain ⟨u5, hu5, h⟩ := Option.bind_eq_some_iff.mp h
    obtain ⟨y4, hy4, h⟩ := Option.bind_eq_some_iff.mp h
    refine rn_callV [.int 1] rfl rfl ⟨rfl, rfl⟩ hu5 rfl rfl (e151 (d + 5) hy4) ?_
    refine rn_steps 1 28 [.ref l0] [.int y4.1] rfl ?_
    exact e245_28 d _ _ _ _ h
  | some b3 =>
    dsimp only at h
    refine rn_steps 3 22 [.ref l0] [.ref l0, .ref l0] rfl ?_
    obtain ⟨u9, hu9, h⟩ := Option.bind_eq_some_iff.mp h
    obtain ⟨y6, hy6, h⟩ := Option.bind_eq_some_iff.mp h
    refine rn_callV [] rfl rfl ⟨rfl, rfl⟩ hu9 rfl rfl (e244 d hy6) ?_
    refine rn_steps 0 25 [.ref l0] [.int y6.1, .ref l0] rfl ?_
    obtain ⟨u8, hu8, h⟩ := Option.bind_eq_some_iff.mp h
    obtain ⟨y7, hy7, h⟩ := Option.bind_eq_some_iff.mp h
    refine rn_callV [.int y6.1] rfl rfl ⟨rfl, rfl⟩ hu8 rfl rfl (e154 (d + 5) hy7) ?_
    refine rn_steps 0 28 [.ref l0] [.int y7.1] rfl ?_
    exact e245_28 d _ _ _ _ h
/-- LastAskedModel.lookLeaves()I -/
noncomputable def f246 (l0 : Nat) (σ : xM) : Option (Int32 × xM) :=
  (pI σ l0 9 0 0).bind fun σ1 =>
  (gQ σ1 l0 9 3).bind fun q2 =>
  match q2 with
  | none =>
  (cO σ1 l0 9).bind fun u5 =>
  (f151 l0 1 σ1).bind fun y4 =>
  some (y4.1, y4.2)
  | some b3 =>
  (cO σ1 l0 9).bind fun u10 =>
  (f244 l0 σ1).bind fun y6 =>
  (gI y6.2 l0 9 35).bind fun v7 =>
  (cO y6.2 l0 9).bind fun u9 =>
  (f154 l0 v7 y6.2).bind fun y8 =>
  some (y8.1, y8.2)
set_option maxRecDepth 20000 in
set_option maxHeartbeats 1000000 in
theorem e246 (d : Nat) {l0 : Nat} {σ : xM} {y : Int32 × xM} (h : f246 l0 σ = some y) : Rn (d + 6) 246 0 [.ref l0] [] σ (some (.int y.1), y.2) := by
  unfold f246 at h
  refine rn_steps 2 2 [.ref l0] [.int 0, .ref l0] rfl ?_
  obtain ⟨σ1, hσ1, h⟩ := Option.bind_eq_some_iff.mp h
  refine rn_pI (c := 9) (f := 0) rfl rfl ⟨⟨rfl, rfl⟩, rfl⟩ hσ1 ?_
  refine rn_steps 1 6 [.ref l0] [.ref l0] rfl ?_
  obtain ⟨q2, hq2, h⟩ := Option.bind_eq_some_iff.mp h
  refine rn_gQ (c := 9) (f := 3) rfl rfl ⟨⟨rfl, rfl⟩, rfl⟩ hq2 ?_
  cases q2 with
  | none =>
    dsimp only at h
    refine rn_steps 3 14 [.ref l0] [.int 1, .ref l0] rfl ?_
    obtain ⟨u5, hu5, h⟩ := Option.bind_eq_some_iff.mp h
    obtain ⟨y4, hy4, h⟩ := Option.bind_eq_some_iff.mp h
    refine rn_callV [.int 1] rfl rfl ⟨rfl, rfl⟩ hu5 rfl rfl (e151 (d + 5) hy4) ?_
    refine rn_steps 0 17 [.ref l0] [.int y4.1] rfl ?_
    cases h
    exact rn_ret rfl rfl rfl
  | some b3 =>
    dsimp only at h
    refine rn_steps 2 19 [.ref l0] [.ref l0] rfl ?_
    obtain ⟨u10, hu10, h⟩ := Option.bind_eq_some_iff.mp h
    obtain ⟨y6, hy6, h⟩ := Option.bind_eq_some_iff.mp h
    refine rn_callV [] rfl rfl ⟨rfl, rfl⟩ hu10 rfl rfl (e244 d hy6) ?_
    refine rn_steps 3 25 [.ref l0] [.ref l0, .ref l0] rfl ?_
    obtain ⟨v7, hv7, h⟩ := Option.bind_eq_some_iff.mp h
    refine rn_gI (c := 9) (f := 35) rfl rfl ⟨⟨rfl, rfl⟩, Or.inl rfl⟩ hv7 ?_
    refine rn_steps 0 28 [.ref l0] [.int v7, .ref l0] rfl ?_
    obtain ⟨u9, hu9, h⟩ := Option.bind_eq_some_iff.mp h
    obtain ⟨y8, hy8, h⟩ := Option.bind_eq_some_iff.mp h
    refine rn_callV [.int v7] rfl rfl ⟨rfl, rfl⟩ hu9 rfl rfl (e154 (d + 5) hy8) ?_
    refine rn_steps 0 31 [.ref l0] [.int y8.1] rfl ?_
    cases h
    exact rn_ret rfl rfl rfl
/-- LastAskedModel.judge()I -/
noncomputable def f247 (l0 : Nat) (σ : xM) : Option (Int32 × xM) :=
  (pI σ l0 9 0 0).bind fun σ1 =>
  (gQ σ1 l0 9 3).bind fun q2 =>
  match q2 with
  | none =>
  (cO σ1 l0 9).bind fun u5 =>
  (f151 l0 1 σ1).bind fun y4 =>
  some (y4.1, y4.2)
  | some b3 =>
  (cO σ1 l0 9).bind fun u11 =>
  (f189 l0 σ1).bind fun y6 =>
  (cO y6 l0 9).bind fun u10 =>
  (f239 l0 y6).bind fun y7 =>
  (cO y7.2 l0 9).bind fun u9 =>
  (f154 l0 y7.1 y7.2).bind fun y8 =>
  some (y8.1, y8.2)
set_option maxRecDepth 20000 in
set_option maxHeartbeats 1000000 in
theorem e247 (d : Nat) {l0 : Nat} {σ : xM} {y : Int32 × xM} (h : f247 l0 σ = some y) : Rn (d + 4) 247 0 [.ref l0] [] σ (some (.int y.1), y.2) := by
  unfold f247 at h
  refine rn_steps 2 2 [.ref l0] [.int 0, .ref l0] rfl ?_
  obtain ⟨σ1, hσ1, h⟩ := Option.bind_eq_some_iff.mp h
  refine rn_pI (c := 9) (f := 0) rfl rfl ⟨⟨rfl, rfl⟩, rfl⟩ hσ1 ?_
  refine rn_steps 1 6 [.ref l0] [.ref l0] rfl ?_
  obtain ⟨q2, hq2, h⟩ := Option.bind_eq_some_iff.mp h
  refine rn_gQ (c := 9) (f := 3) rfl rfl ⟨⟨rfl, rfl⟩, rfl⟩ hq2 ?_
  cases q2 with
  | none =>
    dsimp only at h
    refine rn_steps 3 14 [.ref l0] [.int 1, .ref l0] rfl ?_
    obtain ⟨u5, hu5, h⟩ := Option.bind_eq_some_iff.mp h
    obtain ⟨y4, hy4, h⟩ := Option.bind_eq_some_iff.mp h
    refine rn_callV [.int 1] rfl rfl ⟨rfl, rfl⟩ hu5 rfl rfl (e151 (d + 3) hy4) ?_
    refine rn_steps 0 17 [.ref l0] [.int y4.1] rfl ?_
    cases h
    exact rn_ret rfl rfl rfl
  | some b3 =>
    dsimp only at h
    refine rn_steps 2 19 [.ref l0] [.ref l0] rfl ?_
    obtain ⟨u11, hu11, h⟩ := Option.bind_eq_some_iff.mp h
    obtain ⟨y6, hy6, h⟩ := Option.bind_eq_some_iff.mp h
    refine rn_callV [] rfl rfl ⟨rfl, rfl⟩ hu11 rfl rfl (e189 (d + 3) hy6) ?_
    refine rn_steps 2 24 [.ref l0] [.ref l0, .ref l0] rfl ?_
    obtain ⟨u10, hu10, h⟩ := Option.bind_eq_some_iff.mp h
    obtain ⟨y7, hy7, h⟩ := Option.bind_eq_some_iff.mp h
    refine rn_callV [] rfl rfl ⟨rfl, rfl⟩ hu10 rfl rfl (e239 d hy7) ?_
    refine rn_steps 0 27 [.ref l0] [.int y7.1, .ref l0] rfl ?_
    obtain ⟨u9, hu9, h⟩ := Option.bind_eq_some_iff.mp h
    obtain ⟨y8, hy8, h⟩ := Option.bind_eq_some_iff.mp h
    refine rn_callV [.int y7.1] rfl rfl ⟨rfl, rfl⟩ hu9 rfl rfl (e154 (d + 3) hy8) ?_
    refine rn_steps 0 30 [.ref l0] [.int y8.1] rfl ?_
    cases h
    exact rn_ret rfl rfl rfl
noncomputable def f248_27 (s0 : Int32) (σ : xM) : Option (Int32 × xM) :=
  some (s0, σ)
set_option maxRecDepth 20000 in
set_option maxHeartbeats 1000000 in
theorem e248_27 (d : Nat) (s0 : Int32) (x0 x1 x2 : Value) (σ : xM) (y : Int32 × xM) (h : f248_27 s0 σ = some y) : Rn (d + 0) 248 27 [x0, x1, x2] [.int s0] σ (some (.int y.1), y.2) := by
  unfold f248_27 at h
  cases h
  exact rn_ret rfl rfl rfl
/-- LastAskedModel.rich(IZZ)I -/
noncomputable def f248 (l0 : Int32) (l1 : Int32) (l2 : Int32) (σ : xM) : Option (Int32 × xM) :=
  if l1 = 0 then
  if l2 = 0 then
  f248_27 0 σ
  else
  f248_27 (-l0) σ
  else
  if l2 = 0 then
  f248_27 1 σ
  else
  f248_27 (-2) σ
set_option maxRecDepth 20000 in
set_option maxHeartbeats 1000000 in
theorem e248 (d : Nat) {l0 : Int32} {l1 : Int32} {l2 : Int32} {σ : xM} {y : Int32 × xM} (h : f248 l0 l1 l2 σ = some y) : Rn (d + 0) 248 0 [.int l0, .int l1, .int l2] [] σ (some (.int y.1), y.2) := by
  unfold f248 at h
  refine rn_steps 1 1 [.int l0, .int l1, .int l2] [.int l1] rfl ?_
  refine rn_br (c := l1 = 0) rfl rfl decide_eq_true_iff (fun hb => ?_) (fun hb => ?_)
  · rw [if_pos hb] at h
    refine rn_steps 1 18 [.int l0, .int l1, .int l2] [.int l2] rfl ?_
    refine rn_br (c := l2 = 0) rfl rfl decide_eq_true_iff (fun hb => ?_) (fun hb => ?_)
    · rw [if_pos hb] at h
      refine rn_steps 1 27 [.int l0, .int l1, .int l2] [.int 0] rfl ?_
      exact e248_27 d _ _ _ _ _ _ h
    · rw [if_neg hb] at h
      refine rn_steps 3 27 [.int l0, .int l1, .int l2] [.int (-l0)] rfl ?_
      exact e248_27 d _ _ _ _ _ _ h
  · rw [if_neg hb] at h
    refine rn_steps 1 5 [.int l0, .int l1, .int l2] [.int l2] rfl ?_
    refine rn_br (c := l2 = 0) rfl rfl decide_eq_true_iff (fun hb => ?_) (fun hb => ?_)
    · rw [if_pos hb] at h
      refine rn_steps 2 27 [.int l0, .int l1, .int l2] [.int 1] rfl ?_
      exact e248_27 d _ _ _ _ _ _ h
    · rw [if_neg hb] at h
      refine rn_steps 2 27 [.int l0, .int l1, .int l2] [.int (-2)] rfl ?_
      exact e248_27 d _ _ _ _ _ _ h
noncomputable def f249_17 (s0 : Int32) (σ : xM) : Option (Int32 × xM) :=
  some (s0, σ)
set_option maxRecDepth 20000 in
set_option maxHeartbeats 1000000 in
theorem e249_17 (d : Nat) (s0 : Int32) (x0 x1 : Value) (σ : xM) (y : Int32 × xM) (h : f249_17 s0 σ = some y) : Rn (d + 0) 249 17 [x0, x1] [.int s0] σ (some (.int y.1), y.2) := by
  unfold f249_17 at h
  cases h
  exact rn_ret rfl rfl rfl
/-- LastAskedModel.beggar(ZZ)I -/
noncomputable def f249 (l0 : Int32) (l1 : Int32) (σ : xM) : Option (Int32 × xM) :=
  if l1 = 0 then
  f249_17 0 σ
  else
  if l0 = 0 then
  f249_17 (-1) σ
  else
  f249_17 4 σ
set_option maxRecDepth 20000 in
set_option maxHeartbeats 1000000 in
theorem e249 (d : Nat) {l0 : Int32} {l1 : Int32} {σ : xM} {y : Int32 × xM} (h : f249 l0 l1 σ = some y) : Rn (d + 0) 249 0 [.int l0, .int l1] [] σ (some (.int y.1), y.2) := by
  unfold f249 at h
  refine rn_steps 1 1 [.int l0, .int l1] [.int l1] rfl ?_
  refine rn_br (c := l1 = 0) rfl rfl decide_eq_true_iff (fun hb => ?_) (fun hb => ?_)
  · rw [if_pos hb] at h
    refine rn_steps 1 17 [.int l0, .int l1] [.int 0] rfl ?_
    exact e249_17 d _ _ _ _ _ h
  · rw [if_neg hb] at h
    refine rn_steps 1 5 [.int l0, .int l1] [.int l0] rfl ?_
    refine rn_br (c := l0 = 0) rfl rfl decide_eq_true_iff (fun hb => ?_) (fun hb => ?_)
    · rw [if_pos hb] at h
      refine rn_steps 2 17 [.int l0, .int l1] [.int (-1)] rfl ?_
      exact e249_17 d _ _ _ _ _ h
    · rw [if_neg hb] at h
      refine rn_steps 2 17 [.int l0, .int l1] [.int 4] rfl ?_
      exact e249_17 d _ _ _ _ _ h
noncomputable def f250_26 (s0 : Int32) (σ : xM) : Option (Int32 × xM) :=
  some (s0, σ)
set_option maxRecDepth 20000 in
set_option maxHeartbeats 1000000 in
theorem e250_26 (d : Nat) (s0 : Int32) (x0 x1 : Value) (σ : xM) (y : Int32 × xM) (h : f250_26 s0 σ = some y) : Rn (d + 1) 250 26 [x0, x1] [.int s0] σ (some (.int y.1), y.2) := by
  unfold f250_26 at h
  cases h
  exact rn_ret rfl rfl rfl
/-- LastAskedModel.refusesShame(I)I -/
noncomputable def f250 (l0 : Nat) (l1 : Int32) (σ : xM) : Option (Int32 × xM) :=
  (gQ σ l0 9 3).bind fun q1 =>
  match q1 with
  | none =>
  f250_26 1 σ
  | some b2 =>
  (f156 l1 0 9 σ).bind fun y3 =>
  if y3.1 = 0 then
  f250_26 2 y3.2
  else
  f250_26 0 y3.2
set_option maxRecDepth 20000 in
set_option maxHeartbeats 1000000 in
theorem e250 (d : Nat) {l0 : Nat} {l1 : Int32} {σ : xM} {y : Int32 × xM} (h : f250 l0 l1 σ = some y) : Rn (d + 1) 250 0 [.ref l0, .int l1] [] σ (some (.int y.1), y.2) := by
  unfold f250 at h
  refine rn_steps 1 1 [.ref l0, .int l1] [.ref l0] rfl ?_
  obtain ⟨q1, hq1, h⟩ := Option.bind_eq_some_iff.mp h
  refine rn_gQ (c := 9) (f := 3) rfl rfl ⟨⟨rfl, rfl⟩, rfl⟩ hq1 ?_
  cases q1 with
  | none =>
    dsimp only at h
    refine rn_steps 3 26 [.ref l0, .int l1] [.int 1] rfl ?_
    exact e250_26 d _ _ _ _ _ h
  | some b2 =>
    dsimp only at h
    refine rn_steps 4 15 [.ref l0, .int l1] [.int 9, .int 0, .int l1] rfl ?_
    obtain ⟨y3, hy3, h⟩ := Option.bind_eq_some_iff.mp h
    refine rn_callS [.int l1, .int 0, .int 9] rfl rfl rfl ⟨rfl, rfl, rfl⟩ rfl rfl (e156 d hy3) ?_
    refine rn_steps 0 18 [.ref l0, .int l1] [.int y3.1] rfl ?_
    refine rn_br (c := y3.1 = 0) rfl rfl decide_eq_true_iff (fun hb => ?_) (fun hb => ?_)
    · rw [if_pos hb] at h
      refine rn_steps 1 26 [.ref l0, .int l1] [.int 2] rfl ?_
      exact e250_26 d _ _ _ _ _ h
    · rw [if_neg hb] at h
      refine rn_steps 2 26 [.ref l0, .int l1] [.int 0] rfl ?_
      exact e250_26 d _ _ _ _ _ h
noncomputable def f251_49 (s0 : Int32) (σ : xM) : Option (Int32 × xM) :=
  some (s0, σ)
set_option maxRecDepth 20000 in
set_option maxHeartbeats 1000000 in
theorem e251_49 (d : Nat) (s0 : Int32) (x0 x1 x2 x3 x4 x5 : Value) (σ : xM) (y : Int32 × xM) (h : f251_49 s0 σ = some y) : Rn (d + 2) 251 49 [x0, x1, x2, x3, x4, x5] [.int s0] σ (some (.int y.1), y.2) := by
  unfold f251_49 at h
  cases h
  exact rn_ret rfl rfl rfl
noncomputable def f251_46 (s0 : Int32) (s1 : Nat) (σ : xM) : Option (Int32 × xM) :=
  (cO σ s1 9).bind fun u2 =>
  (f154 s1 s0 σ).bind fun y1 =>
  f251_49 y1.1 y1.2
set_option maxRecDepth 20000 in
set_option maxHeartbeats 1000000 in
theorem e251_46 (d : Nat) (s0 : Int32) (s1 : Nat) (x0 x1 x2 x3 x4 x5 : Value) (σ : xM) (y : Int32 × xM) (h : f251_46 s0 s1 σ = some y) : Rn (d + 2) 251 46 [x0, x1, x2, x3, x4, x5] [.int s0, .ref s1] σ (some (.int y.1), y.2) := by
  unfold f251_46 at h
  obtain ⟨u2, hu2, h⟩ := Option.bind_eq_some_iff.mp h
  obtain ⟨y1, hy1, h⟩ := Option.bind_eq_some_iff.mp h
  refine rn_callV [.int s0] rfl rfl ⟨rfl, rfl⟩ hu2 rfl rfl (e154 (d + 1) hy1) ?_
  refine rn_steps 0 49 [x0, x1, x2, x3, x4, x5] [.int y1.1] rfl ?_
  exact e251_49 d _ _ _ _ _ _ _ _ _ h
/-- LastAskedModel.begs(IZZZ)I -/
noncomputable def f251 (l0 : Nat) (l1 : Int32) (l2 : Int32) (l3 : Int32) (l4 : Int32) (σ : xM) : Option (Int32 × xM) :=
  (pI σ l0 9 0 0).bind fun σ1 =>
  (cO σ1 l0 9).bind fun u7 =>
  (f250 l0 l1 σ1).bind fun y2 =>
  if y2.1 ≤ 0 then
  if l4 = 0 then
  (f248 l1 l2 l3 y2.2).bind fun y3 =>
  f251_46 y3.1 l0 y3.2
  else
  (f249 l2 l3 y2.2).bind fun y4 =>
  f251_46 y4.1 l0 y4.2
  else
  (cO y2.2 l0 9).bind fun u6 =>
  (f152 l0 y2.1 y2.2).bind fun y5 =>
  f251_49 y5.1 y5.2
set_option maxRecDepth 20000 in
set_option maxHeartbeats 1000000 in
theorem e251 (d : Nat) {l0 : Nat} {l1 : Int32} {l2 : Int32} {l3 : Int32} {l4 : Int32} {σ : xM} {y : Int32 × xM} (h : f251 l0 l1 l2 l3 l4 σ = some y) : Rn (d + 2) 251 0 [.ref l0, .int l1, .int l2, .int l3, .int l4, .retAddr 0] [] σ (some (.int y.1), y.2) := by
  unfold f251 at h
  refine rn_steps 2 2 [.ref l0, .int l1, .int l2, .int l3, .int l4, .retAddr 0] [.int 0, .ref l0] rfl ?_
  obtain ⟨σ1, hσ1, h⟩ := Option.bind_eq_some_iff.mp h
  refine rn_pI (c := 9) (f := 0) rfl rfl ⟨⟨rfl, rfl⟩, rfl⟩ hσ1 ?_
  refine rn_steps 2 7 [.ref l0, .int l1, .int l2, .int l3, .int l4, .retAddr 0] [.int l1, .ref l0] rfl ?_
  obtain ⟨u7, hu7, h⟩ := Option.bind_eq_some_iff.mp h
  obtain ⟨y2, hy2, h⟩ := Option.bind_eq_some_iff.mp h
  refine rn_callV [.int l1] rfl rfl ⟨rfl, rfl⟩ hu7 rfl rfl (e250 d hy2) ?_
  refine rn_steps 2 14 [.ref l0, .int l1, .int l2, .int l3, .int l4, .int y2.1] [.int y2.1] rfl ?_
  refine rn_br (c := y2.1 ≤ 0) rfl rfl decide_eq_true_iff (fun hb => ?_) (fun hb => ?_)
  · rw [if_pos hb] at h
    refine rn_steps 2 29 [.ref l0, .int l1, .int l2, .int l3, .int l4, .int y2.1] [.int l4, .ref l0] rfl ?_
    refine rn_br (c := l4 = 0) rfl rfl decide_eq_true_iff (fun hb => ?_) (fun hb => ?_)
    · rw [if_pos hb] at h
      refine rn_steps 3 43 [.ref l0, .int l1, .int l2, .int l3, .int l4, .int y2.1] [.int l3, .int l2, .int l1, .ref l0] rfl ?_
      obtain ⟨y3, hy3, h⟩ := Option.bind_eq_some_iff.mp h
      refine rn_callS [.int l1, .int l2, .int l3] rfl rfl rfl ⟨rfl, rfl, rfl⟩ rfl rfl (e248 (d + 1) hy3) ?_
      refine rn_steps 0 46 [.ref l0, .int l1, .int l2, .int l3, .int l4, .int y2.1] [.int y3.1, .ref l0] rfl ?_
      exact e251_46 d _ _ _ _ _ _ _ _ _ _ h
    · rw [if_neg hb] at h
      refine rn_steps 2 34 [.ref l0, .int l1, .int l2, .int l3, .int l4, .int y2.1] [.int l3, .int l2, .ref l0] rfl ?_
      obtain ⟨y4, hy4, h⟩ := Option.bind_eq_some_iff.mp h
      refine rn_callS [.int l2, .int l3] rfl rfl rfl ⟨rfl, rfl, rfl⟩ rfl rfl (e249 (d + 1) hy4) ?_
      refine rn_steps 1 46 [.ref l0, .int l1, .int l2, .int l3, .int l4, .int y2.1] [.int y4.1, .ref l0] rfl ?_
      exact e251_46 d _ _ _ _ _ _ _ _ _ _ h
  · rw [if_neg hb] at h
    refine rn_steps 2 20 [.ref l0, .int l1, .int l2, .int l3, .int l4, .int y2.1] [.int y2.1, .ref l0] rfl ?_
    obtain ⟨u6, hu6, h⟩ := Option.bind_eq_some_iff.mp h
    obtain ⟨y5, hy5, h⟩ := Option.bind_eq_some_iff.mp h
    refine rn_callV [.int y2.1] rfl rfl ⟨rfl, rfl⟩ hu6 rfl rfl (e152 d hy5) ?_
    refine rn_steps 1 49 [.ref l0, .int l1, .int l2, .int l3, .int l4, .int y2.1] [.int y5.1] rfl ?_
    exact e251_49 d _ _ _ _ _ _ _ _ _ h
noncomputable def f252_73 (s0 : Int32) (σ : xM) : Option (Int32 × xM) :=
  rZ s0 σ
set_option maxRecDepth 20000 in
set_option maxHeartbeats 1000000 in
theorem e252_73 (d : Nat) (s0 : Int32) (x0 x1 x2 x3 : Value) (σ : xM) (y : Int32 × xM) (h : f252_73 s0 σ = some y) : Rn (d + 1) 252 73 [x0, x1, x2, x3] [.int s0] σ (some (.int y.1), y.2) := by
  unfold f252_73 at h
  exact rn_retZ rfl rfl h
noncomputable def f252_72 (σ : xM) : Option (Int32 × xM) :=
  f252_73 0 σ
set_option maxRecDepth 20000 in
set_option maxHeartbeats 1000000 in
theorem e252_72 (d : Nat) (x0 x1 x2 x3 : Value) (σ : xM) (y : Int32 × xM) (h : f252_72 σ = some y) : Rn (d + 1) 252 72 [x0, x1, x2, x3] [] σ (some (.int y.1), y.2) := by
  unfold f252_72 at h
  refine rn_steps 1 73 [x0, x1, x2, x3] [.int 0] rfl ?_
  exact e252_73 d _ _ _ _ _ _ _ h
noncomputable def f252_57 (l2 : Int32) (l3 : Int32) (s0 : Int32) (s1 : Int32) (σ : xM) : Option (Int32 × xM) :=
  (f249 s1 s0 σ).bind fun y1 =>
  (f249 l2 l3 y1.2).bind fun y2 =>
  if y2.1 < y1.1 then
  f252_72 y2.2
  else
  f252_73 1 y2.2
set_option maxRecDepth 20000 in
set_option maxHeartbeats 1000000 in
theorem e252_57 (d : Nat) (l2 : Int32) (l3 : Int32) (s0 : Int32) (s1 : Int32) (x0 x1 : Value) (σ : xM) (y : Int32 × xM) (h : f252_57 l2 l3 s0 s1 σ = some y) : Rn (d + 1) 252 57 [x0, x1, .int l2, .int l3] [.int s0, .int s1] σ (some (.int y.1), y.2) := by
  unfold f252_57 at h
  obtain ⟨y1, hy1, h⟩ := Option.bind_eq_some_iff.mp h
  refine rn_callS [.int s1, .int s0] rfl rfl rfl ⟨rfl, rfl, rfl⟩ rfl rfl (e249 d hy1) ?_
  refine rn_steps 2 62 [x0, x1, .int l2, .int l3] [.int l3, .int l2, .int y1.1] rfl ?_
  obtain ⟨y2, hy2, h⟩ := Option.bind_eq_some_iff.mp h
  refine rn_callS [.int l2, .int l3] rfl rfl rfl ⟨rfl, rfl, rfl⟩ rfl rfl (e249 d hy2) ?_
  refine rn_steps 0 65 [x0, x1, .int l2, .int l3] [.int y2.1, .int y1.1] rfl ?_
  refine rn_br (c := y2.1 < y1.1) rfl rfl decide_eq_true_iff (fun hb => ?_) (fun hb => ?_)
  · rw [if_pos hb] at h
    refine rn_steps 0 72 [x0, x1, .int l2, .int l3] [] rfl ?_
    exact e252_72 d _ _ _ _ _ _ h
  · rw [if_neg hb] at h
    refine rn_steps 2 73 [x0, x1, .int l2, .int l3] [.int 1] rfl ?_
    exact e252_73 d _ _ _ _ _ _ _ h
noncomputable def f252_34 (l0 : Int32) (l2 : Int32) (l3 : Int32) (s0 : Int32) (s1 : Int32) (σ : xM) : Option (Int32 × xM) :=
  (f248 s1 s0 l3 σ).bind fun y1 =>
  (f248 l0 l2 l3 y1.2).bind fun y2 =>
  if y2.1 < y1.1 then
  f252_72 y2.2
  else
  if l3 = 0 then
  f252_57 l2 l3 1 l2 y2.2
  else
  f252_57 l2 l3 0 l2 y2.2
set_option maxRecDepth 20000 in
set_option maxHeartbeats 1000000 in
theorem e252_34 (d : Nat) (l0 : Int32) (l2 : Int32) (l3 : Int32) (s0 : Int32) (s1 : Int32) (x1 : Value) (σ : xM) (y : Int32 × xM) (h : f252_34 l0 l2 l3 s0 s1 σ = some y) : Rn (d + 1) 252 34 [.int l0, x1, .int l2, .int l3] [.int s0, .int s1] σ (some (.int y.1), y.2) := by
  unfold f252_34 at h
  refine rn_steps 1 35 [.int l0, x1, .int l2, .int l3] [.int l3, .int s0, .int s1] rfl ?_
  obtain ⟨y1, hy1, h⟩ := Option.bind_eq_some_iff.mp h
  refine rn_callS [.int s1, .int s0, .int l3] rfl rfl rfl ⟨rfl, rfl, rfl⟩ rfl rfl (e248 d hy1) ?_
  refine rn_steps 3 41 [.int l0, x1, .int l2, .int l3] [.int l3, .int l2, .int l0, .int y1.1] rfl ?_
  obtain ⟨y2, hy2, h⟩ := Option.bind_eq_some_iff.mp h
  refine rn_callS [.int l0, .int l2, .int l3] rfl rfl rfl ⟨rfl, rfl, rfl⟩ rfl rfl (e248 d hy2) ?_
  refine rn_steps 0 44 [.int l0, x1, .int l2, .int l3] [.int y2.1, .int y1.1] rfl ?_
  refine rn_br (c := y2.1 < y1.1) rfl rfl decide_eq_true_iff (fun hb => ?_) (fun hb => ?_)
  · rw [if_pos hb] at h
    refine rn_steps 0 72 [.int l0, x1, .int l2, .int l3] [] rfl ?_
    exact e252_72 d _ _ _ _ _ _ h
  · rw [if_neg hb] at h
    refine rn_steps 2 49 [.int l0, x1, .int l2, .int l3] [.int l3, .int l2] rfl ?_
    refine rn_br (c := ¬ l3 = 0) rfl rfl decide_eq_true_iff (fun hb => ?_) (fun hb => ?_)
    · rw [if_neg hb] at h
      refine rn_steps 1 57 [.int l0, x1, .int l2, .int l3] [.int 0, .int l2] rfl ?_
      exact e252_57 d _ _ _ _ _ _ _ _ h
    · rw [if_pos (Decidable.not_not.mp hb)] at h
      refine rn_steps 2 57 [.int l0, x1, .int l2, .int l3] [.int 1, .int l2] rfl ?_
      exact e252_57 d _ _ _ _ _ _ _ _ h
noncomputable def f252_23 (l0 : Int32) (l2 : Int32) (s0 : Int32) (σ : xM) : Option (Int32 × xM) :=
  if l2 = 0 then
  f252_34 l0 l2 s0 1 l0 σ
  else
  f252_34 l0 l2 s0 0 l0 σ
set_option maxRecDepth 20000 in
set_option maxHeartbeats 1000000 in
theorem e252_23 (d : Nat) (l0 : Int32) (l2 : Int32) (s0 : Int32) (x1 x3 : Value) (σ : xM) (y : Int32 × xM) (h : f252_23 l0 l2 s0 σ = some y) : Rn (d + 1) 252 23 [.int l0, x1, .int l2, x3] [.int s0] σ (some (.int y.1), y.2) := by
  unfold f252_23 at h
  refine rn_steps 3 26 [.int l0, x1, .int l2, .int s0] [.int l2, .int l0] rfl ?_
  refine rn_br (c := ¬ l2 = 0) rfl rfl decide_eq_true_iff (fun hb => ?_) (fun hb => ?_)
  · rw [if_neg hb] at h
    refine rn_steps 1 34 [.int l0, x1, .int l2, .int s0] [.int 0, .int l0] rfl ?_
    exact e252_34 d _ _ _ _ _ _ _ _ h
  · rw [if_pos (Decidable.not_not.mp hb)] at h
    refine rn_steps 2 34 [.int l0, x1, .int l2, .int s0] [.int 1, .int l0] rfl ?_
    exact e252_34 d _ _ _ _ _ _ _ _ h
noncomputable def f252_10 (l0 : Int32) (l1 : Int32) (s0 : Int32) (σ : xM) : Option (Int32 × xM) :=
  (rI l1 2).bind fun v1 =>
  if v1 = 1 then
  f252_23 l0 s0 1 σ
  else
  f252_23 l0 s0 0 σ
set_option maxRecDepth 20000 in
set_option maxHeartbeats 1000000 in
theorem e252_10 (d : Nat) (l0 : Int32) (l1 : Int32) (s0 : Int32) (x2 x3 : Value) (σ : xM) (y : Int32 × xM) (h : f252_10 l0 l1 s0 σ = some y) : Rn (d + 1) 252 10 [.int l0, .int l1, x2, x3] [.int s0] σ (some (.int y.1), y.2) := by
  unfold f252_10 at h
  refine rn_steps 3 13 [.int l0, .int l1, .int s0, x3] [.int 2, .int l1] rfl ?_
  obtain ⟨v1, hv1, h⟩ := Option.bind_eq_some_iff.mp h
  refine rn_rI rfl hv1 ?_
  refine rn_steps 1 15 [.int l0, .int l1, .int s0, x3] [.int 1, .int v1] rfl ?_
  refine rn_br (c := ¬ v1 = 1) rfl rfl decide_eq_true_iff (fun hb => ?_) (fun hb => ?_)
  · rw [if_neg hb] at h
    refine rn_steps 1 23 [.int l0, .int l1, .int s0, x3] [.int 0] rfl ?_
    exact e252_23 d _ _ _ _ _ _ _ h
  · rw [if_pos (Decidable.not_not.mp hb)] at h
    refine rn_steps 2 23 [.int l0, .int l1, .int s0, x3] [.int 1] rfl ?_
    exact e252_23 d _ _ _ _ _ _ _ h
/-- LastAskedModel.isRest(II)Z -/
noncomputable def f252 (l0 : Int32) (l1 : Int32) (σ : xM) : Option (Int32 × xM) :=
  if l1 ≤ 1 then
  f252_10 l0 l1 0 σ
  else
  f252_10 l0 l1 1 σ
set_option maxRecDepth 20000 in
set_option maxHeartbeats 1000000 in
theorem e252 (d : Nat) {l0 : Int32} {l1 : Int32} {σ : xM} {y : Int32 × xM} (h : f252 l0 l1 σ = some y) : Rn (d + 1) 252 0 [.int l0, .int l1, .retAddr 0, .retAddr 0] [] σ (some (.int y.1), y.2) := by
  unfold f252 at h
  refine rn_steps 2 2 [.int l0, .int l1, .retAddr 0, .retAddr 0] [.int 1, .int l1] rfl ?_
  refine rn_br (c := l1 ≤ 1) rfl rfl decide_eq_true_iff (fun hb => ?_) (fun hb => ?_)
  · rw [if_pos hb] at h
    refine rn_steps 1 10 [.int l0, .int l1, .retAddr 0, .retAddr 0] [.int 0] rfl ?_
    exact e252_10 d _ _ _ _ _ _ _ h
  · rw [if_neg hb] at h
    refine rn_steps 2 10 [.int l0, .int l1, .retAddr 0, .retAddr 0] [.int 1] rfl ?_
    exact e252_10 d _ _ _ _ _ _ _ h
noncomputable def f253_55 (l0 : Nat) (l3 : Int32) (σ : xM) : Option (Int32 × xM) :=
  (cO σ l0 9).bind fun u2 =>
  (f154 l0 l3 σ).bind fun y1 =>
  some (y1.1, y1.2)
set_option maxRecDepth 20000 in
set_option maxHeartbeats 1000000 in
theorem e253_55 (d : Nat) (l0 : Nat) (l3 : Int32) (x1 x2 x4 : Value) (σ : xM) (y : Int32 × xM) (h : f253_55 l0 l3 σ = some y) : Rn (d + 2) 253 55 [.ref l0, x1, x2, .int l3, x4] [] σ (some (.int y.1), y.2) := by
  unfold f253_55 at h
  refine rn_steps 2 57 [.ref l0, x1, x2, .int l3, x4] [.int l3, .ref l0] rfl ?_
  obtain ⟨u2, hu2, h⟩ := Option.bind_eq_some_iff.mp h
  obtain ⟨y1, hy1, h⟩ := Option.bind_eq_some_iff.mp h
  refine rn_callV [.int l3] rfl rfl ⟨rfl, rfl⟩ hu2 rfl rfl (e154 (d + 1) hy1) ?_
  refine rn_steps 0 60 [.ref l0, x1, x2, .int l3, x4] [.int y1.1] rfl ?_
  cases h
  exact rn_ret rfl rfl rfl
noncomputable def f253_47 (K26 : Nat → Int32 → Int32 → Int32 → xM → Option (Int32 × xM)) (l0 : Nat) (l1 : Int32) (l4 : Int32) (s0 : Int32) (s1 : Int32) (σ : xM) : Option (Int32 × xM) :=
  K26 l0 l1 (s1 + s0) (l4 + 1) σ
set_option maxRecDepth 20000 in
set_option maxHeartbeats 1000000 in
theorem e253_47 (d : Nat) (K26 : Nat → Int32 → Int32 → Int32 → xM → Option (Int32 × xM)) (hK26 : ∀ (l0 : Nat) (l1 : Int32) (l3 : Int32) (l4 : Int32) (x2 : Value) (σ : xM) (y : Int32 × xM), K26 l0 l1 l3 l4 σ = some y → Rn (d + 2) 253 26 [.ref l0, .int l1, x2, .int l3, .int l4] [] σ (some (.int y.1), y.2)) (l0 : Nat) (l1 : Int32) (l4 : Int32) (s0 : Int32) (s1 : Int32) (x2 x3 : Value) (σ : xM) (y : Int32 × xM) (h : f253_47 K26 l0 l1 l4 s0 s1 σ = some y) : Rn (d + 2) 253 47 [.ref l0, .int l1, x2, x3, .int l4] [.int s0, .int s1] σ (some (.int y.1), y.2) := by
  unfold f253_47 at h
  refine rn_steps 4 26 [.ref l0, .int l1, x2, .int (s1 + s0), .int (l4 + 1)] [] rfl ?_
  exact hK26 _ _ _ _ _ _ _ h
noncomputable def f253_26 : Nat → Nat → Int32 → Int32 → Int32 → xM → Option (Int32 × xM)
  | 0, _, _, _, _, _ => none
  | n + 1, l0, l1, l3, l4, σ =>
    if 4 ≤ l4 then
    f253_55 l0 l3 σ
    else
    (f252 l1 l4 σ).bind fun y1 =>
    if y1.1 = 0 then
    f253_47 (f253_26 n) l0 l1 l4 0 l3 y1.2
    else
    f253_47 (f253_26 n) l0 l1 l4 1 l3 y1.2
set_option maxRecDepth 20000 in
set_option maxHeartbeats 1000000 in
theorem e253_26 (d : Nat) : ∀ (n : Nat) (l0 : Nat) (l1 : Int32) (l3 : Int32) (l4 : Int32) (x2 : Value) (σ : xM) (y : Int32 × xM), f253_26 n l0 l1 l3 l4 σ = some y → Rn (d + 2) 253 26 [.ref l0, .int l1, x2, .int l3, .int l4] [] σ (some (.int y.1), y.2) := by
  intro n
  induction n with
  | zero => intro l0 l1 l3 l4 x2 σ y h; cases h
  | succ n ih =>
    intro l0 l1 l3 l4 x2 σ y h
    unfold f253_26 at h
    refine rn_steps 2 29 [.ref l0, .int l1, x2, .int l3, .int l4] [.int 4, .int l4] rfl ?_
    refine rn_br (c := 4 ≤ l4) rfl rfl decide_eq_true_iff (fun hb => ?_) (fun hb => ?_)
    · rw [if_pos hb] at h
      refine rn_steps 0 55 [.ref l0, .int l1, x2, .int l3, .int l4] [] rfl ?_
      exact e253_55 d _ _ _ _ _ _ _ h
    · rw [if_neg hb] at h
      refine rn_steps 3 36 [.ref l0, .int l1, x2, .int l3, .int l4] [.int l4, .int l1, .int l3] rfl ?_
      obtain ⟨y1, hy1, h⟩ := Option.bind_eq_some_iff.mp h
      refine rn_callS [.int l1, .int l4] rfl rfl rfl ⟨rfl, rfl, rfl⟩ rfl rfl (e252 d hy1) ?_
      refine rn_steps 0 39 [.ref l0, .int l1, x2, .int l3, .int l4] [.int y1.1, .int l3] rfl ?_
      refine rn_br (c := y1.1 = 0) rfl rfl decide_eq_true_iff (fun hb => ?_) (fun hb => ?_)
      · rw [if_pos hb] at h
        refine rn_steps 1 47 [.ref l0, .int l1, x2, .int l3, .int l4] [.int 0, .int l3] rfl ?_
        exact e253_47 d _ ih _ _ _ _ _ _ _ _ _ h
      · rw [if_neg hb] at h
        refine rn_steps 2 47 [.ref l0, .int l1, x2, .int l3, .int l4] [.int 1, .int l3] rfl ?_
        exact e253_47 d _ ih _ _ _ _ _ _ _ _ _ h
/-- LastAskedModel.rests(I)I -/
noncomputable def f253 (l0 : Nat) (l1 : Int32) (σ : xM) : Option (Int32 × xM) :=
  (pI σ l0 9 0 0).bind fun σ1 =>
  (cO σ1 l0 9).bind fun u5 =>
  (f250 l0 l1 σ1).bind fun y2 =>
  if y2.1 ≤ 0 then
  f253_26 1100 l0 l1 0 0 y2.2
  else
  (cO y2.2 l0 9).bind fun u4 =>
  (f151 l0 y2.1 y2.2).bind fun y3 =>
  some (y3.1, y3.2)
set_option maxRecDepth 20000 in
set_option maxHeartbeats 1000000 in
theorem e253 (d : Nat) {l0 : Nat} {l1 : Int32} {σ : xM} {y : Int32 × xM} (h : f253 l0 l1 σ = some y) : Rn (d + 2) 253 0 [.ref l0, .int l1, .retAddr 0, .retAddr 0, .retAddr 0] [] σ (some (.int y.1), y.2) := by
  unfold f253 at h
  refine rn_steps 2 2 [.ref l0, .int l1, .retAddr 0, .retAddr 0, .retAddr 0] [.int 0, .ref l0] rfl ?_
  obtain ⟨σ1, hσ1, h⟩ := Option.bind_eq_some_iff.mp h
  refine rn_pI (c := 9) (f := 0) rfl rfl ⟨⟨rfl, rfl⟩, rfl⟩ hσ1 ?_
  refine rn_steps 2 7 [.ref l0, .int l1, .retAddr 0, .retAddr 0, .retAddr 0] [.int l1, .ref l0] rfl ?_
  obtain ⟨u5, hu5, h⟩ := Option.bind_eq_some_iff.mp h
  obtain ⟨y2, hy2, h⟩ := Option.bind_eq_some_iff.mp h
  refine rn_callV [.int l1] rfl rfl ⟨rfl, rfl⟩ hu5 rfl rfl (e250 d hy2) ?_
  refine rn_steps 2 12 [.ref l0, .int l1, .int y2.1, .retAddr 0, .retAddr 0] [.int y2.1] rfl ?_
  refine rn_br (c := y2.1 ≤ 0) rfl rfl decide_eq_true_iff (fun hb => ?_) (fun hb => ?_)
  · rw [if_pos hb] at h
    refine rn_steps 4 26 [.ref l0, .int l1, .int y2.1, .int 0, .int 0] [] rfl ?_
    exact e253_26 d 1100 _ _ _ _ _ _ _ h
  · rw [if_neg hb] at h
    refine rn_steps 2 17 [.ref l0, .int l1, .int y2.1, .retAddr 0, .retAddr 0] [.int y2.1, .ref l0] rfl ?_
    obtain ⟨u4, hu4, h⟩ := Option.bind_eq_some_iff.mp h
    obtain ⟨y3, hy3, h⟩ := Option.bind_eq_some_iff.mp h
    refine rn_callV [.int y2.1] rfl rfl ⟨rfl, rfl⟩ hu4 rfl rfl (e151 (d + 1) hy3) ?_
    refine rn_steps 0 20 [.ref l0, .int l1, .int y2.1, .retAddr 0, .retAddr 0] [.int y3.1] rfl ?_
    cases h
    exact rn_ret rfl rfl rfl
noncomputable def f254_57 (l0 : Nat) (σ : xM) : Option (Int32 × xM) :=
  (cO σ l0 9).bind fun u2 =>
  (f154 l0 (-2) σ).bind fun y1 =>
  some (y1.1, y1.2)
set_option maxRecDepth 20000 in
set_option maxHeartbeats 1000000 in
theorem e254_57 (d : Nat) (l0 : Nat) (x1 x2 x3 : Value) (σ : xM) (y : Int32 × xM) (h : f254_57 l0 σ = some y) : Rn (d + 2) 254 57 [.ref l0, x1, x2, x3] [] σ (some (.int y.1), y.2) := by
  unfold f254_57 at h
  refine rn_steps 2 60 [.ref l0, x1, x2, x3] [.int (-2), .ref l0] rfl ?_
  obtain ⟨u2, hu2, h⟩ := Option.bind_eq_some_iff.mp h
  obtain ⟨y1, hy1, h⟩ := Option.bind_eq_some_iff.mp h
  refine rn_callV [.int (-2)] rfl rfl ⟨rfl, rfl⟩ hu2 rfl rfl (e154 (d + 1) hy1) ?_
  refine rn_steps 0 63 [.ref l0, x1, x2, x3] [.int y1.1] rfl ?_
  cases h
  exact rn_ret rfl rfl rfl
noncomputable def f254_23 : Nat → Nat → Int32 → Int32 → xM → Option (Int32 × xM)
  | 0, _, _, _, _ => none
  | n + 1, l0, l1, l3, σ =>
    if 4 ≤ l3 then
    f254_57 l0 σ
    else
    (f252 l1 l3 σ).bind fun y1 =>
    if y1.1 = 0 then
    (f254_23 n) l0 l1 (l3 + 1) y1.2
    else
    (dI l3 2).bind fun v2 =>
    (rI l3 2).bind fun v3 =>
    (cO y1.2 l0 9).bind fun u5 =>
    (f154 l0 ((10 * v2) + v3) y1.2).bind fun y4 =>
    some (y4.1, y4.2)
set_option maxRecDepth 20000 in
set_option maxHeartbeats 1000000 in
theorem e254_23 (d : Nat) : ∀ (n : Nat) (l0 : Nat) (l1 : Int32) (l3 : Int32) (x2 : Value) (σ : xM) (y : Int32 × xM), f254_23 n l0 l1 l3 σ = some y → Rn (d + 2) 254 23 [.ref l0, .int l1, x2, .int l3] [] σ (some (.int y.1), y.2) := by
  intro n
  induction n with
  | zero => intro l0 l1 l3 x2 σ y h; cases h
  | succ n ih =>
    intro l0 l1 l3 x2 σ y h
    unfold f254_23 at h
    refine rn_steps 2 25 [.ref l0, .int l1, x2, .int l3] [.int 4, .int l3] rfl ?_
    refine rn_br (c := 4 ≤ l3) rfl rfl decide_eq_true_iff (fun hb => ?_) (fun hb => ?_)
    · rw [if_pos hb] at h
      refine rn_steps 0 57 [.ref l0, .int l1, x2, .int l3] [] rfl ?_
      exact e254_57 d _ _ _ _ _ _ h
    · rw [if_neg hb] at h
      refine rn_steps 2 30 [.ref l0, .int l1, x2, .int l3] [.int l3, .int l1] rfl ?_
      obtain ⟨y1, hy1, h⟩ := Option.bind_eq_some_iff.mp h
      refine rn_callS [.int l1, .int l3] rfl rfl rfl ⟨rfl, rfl, rfl⟩ rfl rfl (e252 d hy1) ?_
      refine rn_steps 0 33 [.ref l0, .int l1, x2, .int l3] [.int y1.1] rfl ?_
      refine rn_br (c := y1.1 = 0) rfl rfl decide_eq_true_iff (fun hb => ?_) (fun hb => ?_)
      · rw [if_pos hb] at h
        refine rn_steps 2 23 [.ref l0, .int l1, x2, .int (l3 + 1)] [] rfl ?_
        exact ih _ _ _ _ _ _ h
      · rw [if_neg hb] at h
        refine rn_steps 4 41 [.ref l0, .int l1, x2, .int l3] [.int 2, .int l3, .int 10, .ref l0] rfl ?_
        obtain ⟨v2, hv2, h⟩ := Option.bind_eq_some_iff.mp h
        refine rn_dI rfl hv2 ?_
        refine rn_steps 3 45 [.ref l0, .int l1, x2, .int l3] [.int 2, .int l3, .int (10 * v2), .ref l0] rfl ?_
        obtain ⟨v3, hv3, h⟩ := Option.bind_eq_some_iff.mp h
        refine rn_rI rfl hv3 ?_
        refine rn_steps 1 47 [.ref l0, .int l1, x2, .int l3] [.int ((10 * v2) + v3), .ref l0] rfl ?_
        obtain ⟨u5, hu5, h⟩ := Option.bind_eq_some_iff.mp h
        obtain ⟨y4, hy4, h⟩ := Option.bind_eq_some_iff.mp h
        refine rn_callV [.int ((10 * v2) + v3)] rfl rfl ⟨rfl, rfl⟩ hu5 rfl rfl (e154 (d + 1) hy4) ?_
        refine rn_steps 0 50 [.ref l0, .int l1, x2, .int l3] [.int y4.1] rfl ?_
        cases h
        exact rn_ret rfl rfl rfl
/-- LastAskedModel.rest(I)I -/
noncomputable def f254 (l0 : Nat) (l1 : Int32) (σ : xM) : Option (Int32 × xM) :=
  (pI σ l0 9 0 0).bind fun σ1 =>
  (cO σ1 l0 9).bind fun u5 =>
  (f250 l0 l1 σ1).bind fun y2 =>
  if y2.1 ≤ 0 then
  f254_23 1100 l0 l1 0 y2.2
  else
  (cO y2.2 l0 9).bind fun u4 =>
  (f151 l0 y2.1 y2.2).bind fun y3 =>
  some (y3.1, y3.2)
set_option maxRecDepth 20000 in
set_option maxHeartbeats 1000000 in
theorem e254 (d : Nat) {l0 : Nat} {l1 : Int32} {σ : xM} {y : Int32 × xM} (h : f254 l0 l1 σ = some y) : Rn (d + 2) 254 0 [.ref l0, .int l1, .retAddr 0, .retAddr 0] [] σ (some (.int y.1), y.2) := by
  unfold f254 at h
  refine rn_steps 2 2 [.ref l0, .int l1, .retAddr 0, .retAddr 0] [.int 0, .ref l0] rfl ?_
  obtain ⟨σ1, hσ1, h⟩ := Option.bind_eq_some_iff.mp h
  refine rn_pI (c := 9) (f := 0) rfl rfl ⟨⟨rfl, rfl⟩, rfl⟩ hσ1 ?_
  refine rn_steps 2 7 [.ref l0, .int l1, .retAddr 0, .retAddr 0] [.int l1, .ref l0] rfl ?_
  obtain ⟨u5, hu5, h⟩ := Option.bind_eq_some_iff.mp h
  obtain ⟨y2, hy2, h⟩ := Option.bind_eq_some_iff.mp h
  refine rn_callV [.int l1] rfl rfl ⟨rfl, rfl⟩ hu5 rfl rfl (e250 d hy2) ?_
  refine rn_steps 2 12 [.ref l0, .int l1, .int y2.1, .retAddr 0] [.int y2.1] rfl ?_
  refine rn_br (c := y2.1 ≤ 0) rfl rfl decide_eq_true_iff (fun hb => ?_) (fun hb => ?_)
  · rw [if_pos hb] at h
    refine rn_steps 2 23 [.ref l0, .int l1, .int y2.1, .int 0] [] rfl ?_
    exact e254_23 d 1100 _ _ _ _ _ _ h
  · rw [if_neg hb] at h
    refine rn_steps 2 17 [.ref l0, .int l1, .int y2.1, .retAddr 0] [.int y2.1, .ref l0] rfl ?_
    obtain ⟨u4, hu4, h⟩ := Option.bind_eq_some_iff.mp h
    obtain ⟨y3, hy3, h⟩ := Option.bind_eq_some_iff.mp h
    refine rn_callV [.int y2.1] rfl rfl ⟨rfl, rfl⟩ hu4 rfl rfl (e151 (d + 1) hy3) ?_
    refine rn_steps 0 20 [.ref l0, .int l1, .int y2.1, .retAddr 0] [.int y3.1] rfl ?_
    cases h
    exact rn_ret rfl rfl rfl
noncomputable def f255_92 (l0 : Nat) (l1 : Int32) (l2 : Int32) (σ : xM) : Option (Int32 × xM) :=
  (cO σ l0 9).bind fun u2 =>
  (f196 l0 l2 l1 σ).bind fun y1 =>
  some (l2, y1)
set_option maxRecDepth 20000 in
set_option maxHeartbeats 1000000 in
theorem e255_92 (d : Nat) (l0 : Nat) (l1 : Int32) (l2 : Int32) (x3 : Value) (σ : xM) (y : Int32 × xM) (h : f255_92 l0 l1 l2 σ = some y) : Rn (d + 5) 255 92 [.ref l0, .int l1, .int l2, x3] [] σ (some (.int y.1), y.2) := by
  unfold f255_92 at h
  refine rn_steps 3 95 [.ref l0, .int l1, .int l2, x3] [.int l1, .int l2, .ref l0] rfl ?_
  obtain ⟨u2, hu2, h⟩ := Option.bind_eq_some_iff.mp h
  obtain ⟨y1, hy1, h⟩ := Option.bind_eq_some_iff.mp h
  refine rn_callV [.int l2, .int l1] rfl rfl ⟨rfl, rfl⟩ hu2 rfl rfl (e196 d hy1) ?_
  refine rn_steps 1 99 [.ref l0, .int l1, .int l2, x3] [.int l2] rfl ?_
  cases h
  exact rn_ret rfl rfl rfl
noncomputable def f255_86 (K4 : Nat → Int32 → Int32 → Int32 → xM → Option (Int32 × xM)) (l0 : Nat) (l1 : Int32) (l2 : Int32) (l3 : Int32) (σ : xM) : Option (Int32 × xM) :=
  K4 l0 l1 l2 (l3 + 1) σ
set_option maxRecDepth 20000 in
set_option maxHeartbeats 1000000 in
theorem e255_86 (d : Nat) (K4 : Nat → Int32 → Int32 → Int32 → xM → Option (Int32 × xM)) (hK4 : ∀ (l0 : Nat) (l1 : Int32) (l2 : Int32) (l3 : Int32) (σ : xM) (y : Int32 × xM), K4 l0 l1 l2 l3 σ = some y → Rn (d + 5) 255 4 [.ref l0, .int l1, .int l2, .int l3] [] σ (some (.int y.1), y.2)) (l0 : Nat) (l1 : Int32) (l2 : Int32) (l3 : Int32) (σ : xM) (y : Int32 × xM) (h : f255_86 K4 l0 l1 l2 l3 σ = some y) : Rn (d + 5) 255 86 [.ref l0, .int l1, .int l2, .int l3] [] σ (some (.int y.1), y.2) := by
  unfold f255_86 at h
  refine rn_steps 2 4 [.ref l0, .int l1, .int l2, .int (l3 + 1)] [] rfl ?_
  exact hK4 _ _ _ _ _ _ h
noncomputable def f255_84 (K4 : Nat → Int32 → Int32 → Int32 → xM → Option (Int32 × xM)) (l0 : Nat) (l1 : Int32) (l3 : Int32) (s0 : Int32) (s1 : Int32) (σ : xM) : Option (Int32 × xM) :=
  f255_86 K4 l0 l1 (s1 ||| s0) l3 σ
set_option maxRecDepth 20000 in
set_option maxHeartbeats 1000000 in
theorem e255_84 (d : Nat) (K4 : Nat → Int32 → Int32 → Int32 → xM → Option (Int32 × xM)) (hK4 : ∀ (l0 : Nat) (l1 : Int32) (l2 : Int32) (l3 : Int32) (σ : xM) (y : Int32 × xM), K4 l0 l1 l2 l3 σ = some y → Rn (d + 5) 255 4 [.ref l0, .int l1, .int l2, .int l3] [] σ (some (.int y.1), y.2)) (l0 : Nat) (l1 : Int32) (l3 : Int32) (s0 : Int32) (s1 : Int32) (x2 : Value) (σ : xM) (y : Int32 × xM) (h : f255_84 K4 l0 l1 l3 s0 s1 σ = some y) : Rn (d + 5) 255 84 [.ref l0, .int l1, x2, .int l3] [.int s0, .int s1] σ (some (.int y.1), y.2) := by
  unfold f255_84 at h
  refine rn_steps 2 86 [.ref l0, .int l1, .int (s1 ||| s0), .int l3] [] rfl ?_
  exact e255_86 d _ hK4 _ _ _ _ _ _ h
noncomputable def f255_4 : Nat → Nat → Int32 → Int32 → Int32 → xM → Option (Int32 × xM)
  | 0, _, _, _, _, _ => none
  | n + 1, l0, l1, l2, l3, σ =>
    (gR σ l0 9 3).bind fun r1 =>
    (gI σ r1 8 2).bind fun v2 =>
    if v2 ≤ l3 then
    f255_92 l0 l1 l2 σ
    else
    (cO σ l0 9).bind fun u15 =>
    (f190 l0 l3 σ).bind fun y3 =>
    if y3.1 = 0 then
    f255_86 (f255_4 n) l0 l1 l2 l3 y3.2
    else
    (gR y3.2 l0 9 17).bind fun r4 =>
    (gR y3.2 l0 9 17).bind fun r5 =>
    (aI y3.2 r5 46).bind fun v6 =>
    (rJ ((75 * v6.toInt64) + 74) 65537).bind fun v7 =>
    (tI y3.2 r4 46 v7.toInt32).bind fun σ8 =>
    (gR σ8 l0 9 17).bind fun r9 =>
    (aI σ8 r9 46).bind fun v10 =>
    (rI v10 100).bind fun v11 =>
    (gR σ8 l0 9 3).bind fun r12 =>
    (gR σ8 r12 8 9).bind fun r13 =>
    (aI σ8 r13 l3).bind fun v14 =>
    if v14 ≤ v11 then
    f255_84 (f255_4 n) l0 l1 l3 0 l2 σ8
    else
    f255_84 (f255_4 n) l0 l1 l3 (1 <<< (l3 &&& 31)) l2 σ8
set_option maxRecDepth 20000 in
set_option maxHeartbeats 1000000 in
theorem e255_4 (d : Nat) : ∀ (n : Nat) (l0 : Nat) (l1 : Int32) (l2 : Int32) (l3 : Int32) (σ : xM) (y : Int32 × xM), f255_4 n l0 l1 l2 l3 σ = some y → Rn (d + 5) 255 4 [.ref l0, .int l1, .int l2, .int l3] [] σ (some (.int y.1), y.2) := by
  intro n
  induction n with
  | zero => intro l0 l1 l2 l3 σ y h; cases h
  | succ n ih =>
    intro l0 l1 l2 l3 σ y h
    unfold f255_4 at h
    refine rn_steps 2 6 [.ref l0, .int l1, .int l2, .int l3] [.ref l0, .int l3] rfl ?_
    obtain ⟨r1, hr1, h⟩ := Option.bind_eq_some_iff.mp h
    refine rn_gR (c := 9) (f := 3) rfl rfl ⟨⟨rfl, rfl⟩, rfl⟩ hr1 ?_
    refine rn_steps 0 9 [.ref l0, .int l1, .int l2, .int l3] [.ref r1, .int l3] rfl ?_
    obtain ⟨v2, hv2, h⟩ := Option.bind_eq_some_iff.mp h
    refine rn_gI (c := 8) (f := 2) rfl rfl ⟨⟨rfl, rfl⟩, Or.inl rfl⟩ hv2 ?_
    refine rn_steps 0 12 [.ref l0, .int l1, .int l2, .int l3] [.int v2, .int l3] rfl ?_
    refine rn_br (c := v2 ≤ l3) rfl rfl decide_eq_true_iff (fun hb => ?_) (fun hb => ?_)
    · rw [if_pos hb] at h
      refine rn_steps 0 92 [.ref l0, .int l1, .int l2, .int l3] [] rfl ?_
      exact e255_92 d _ _ _ _ _ _ h
    · rw [if_neg hb] at h
      refine rn_steps 2 17 [.ref l0, .int l1, .int l2, .int l3] [.int l3, .ref l0] rfl ?_
      obtain ⟨u15, hu15, h⟩ := Option.bind_eq_some_iff.mp h
      obtain ⟨y3, hy3, h⟩ := Option.bind_eq_some_iff.mp h
      refine rn_callV [.int l3] rfl rfl ⟨rfl, rfl⟩ hu15 rfl rfl (e190 (d + 3) hy3) ?_
      refine rn_steps 0 20 [.ref l0, .int l1, .int l2, .int l3] [.int y3.1] rfl ?_
      refine rn_br (c := ¬ y3.1 = 0) rfl rfl decide_eq_true_iff (fun hb => ?_) (fun hb => ?_)
      · rw [if_neg hb] at h
        refine rn_steps 1 27 [.ref l0, .int l1, .int l2, .int l3] [.ref l0] rfl ?_
        obtain ⟨r4, hr4, h⟩ := Option.bind_eq_some_iff.mp h
        refine rn_gR (c := 9) (f := 17) rfl rfl ⟨⟨rfl, rfl⟩, rfl⟩ hr4 ?_
        refine rn_steps 3 36 [.ref l0, .int l1, .int l2, .int l3] [.ref l0, .long 75, .int 46, .ref r4] rfl ?_
        obtain ⟨r5, hr5, h⟩ := Option.bind_eq_some_iff.mp h
        refine rn_gR (c := 9) (f := 17) rfl rfl ⟨⟨rfl, rfl⟩, rfl⟩ hr5 ?_
        refine rn_steps 1 41 [.ref l0, .int l1, .int l2, .int l3] [.int 46, .ref r5, .long 75, .int 46, .ref r4] rfl ?_
        obtain ⟨v6, hv6, h⟩ := Option.bind_eq_some_iff.mp h
        refine rn_aI rfl hv6 ?_
        refine rn_steps 5 51 [.ref l0, .int l1, .int l2, .int l3] [.long 65537, .long ((75 * v6.toInt64) + 74), .int 46, .ref r4] rfl ?_
        obtain ⟨v7, hv7, h⟩ := Option.bind_eq_some_iff.mp h
        refine rn_rJ rfl hv7 ?_
        refine rn_steps 1 53 [.ref l0, .int l1, .int l2, .int l3] [.int v7.toInt32, .int 46, .ref r4] rfl ?_
        obtain ⟨σ8, hσ8, h⟩ := Option.bind_eq_some_iff.mp h
        refine rn_tI rfl hσ8 ?_
        refine rn_steps 2 56 [.ref l0, .int l1, .int l2, .int l3] [.ref l0, .int l2] rfl ?_
        obtain ⟨r9, hr9, h⟩ := Option.bind_eq_some_iff.mp h
        refine rn_gR (c := 9) (f := 17) rfl rfl ⟨⟨rfl, rfl⟩, rfl⟩ hr9 ?_
        refine rn_steps 1 61 [.ref l0, .int l1, .int l2, .int l3] [.int 46, .ref r9, .int l2] rfl ?_
        obtain ⟨v10, hv10, h⟩ := Option.bind_eq_some_iff.mp h
        refine rn_aI rfl hv10 ?_
        refine rn_steps 1 64 [.ref l0, .int l1, .int l2, .int l3] [.int 100, .int v10, .int l2] rfl ?_
        obtain ⟨v11, hv11, h⟩ := Option.bind_eq_some_iff.mp h
        refine rn_rI rfl hv11 ?_
        refine rn_steps 1 66 [.ref l0, .int l1, .int l2, .int l3] [.ref l0, .int v11, .int l2] rfl ?_
        obtain ⟨r12, hr12, h⟩ := Option.bind_eq_some_iff.mp h
        refine rn_gR (c := 9) (f := 3) rfl rfl ⟨⟨rfl, rfl⟩, rfl⟩ hr12 ?_
        refine rn_steps 0 69 [.ref l0, .int l1, .int l2, .int l3] [.ref r12, .int v11, .int l2] rfl ?_
        obtain ⟨r13, hr13, h⟩ := Option.bind_eq_some_iff.mp h
        refine rn_gR (c := 8) (f := 9) rfl rfl ⟨⟨rfl, rfl⟩, rfl⟩ hr13 ?_
        refine rn_steps 1 73 [.ref l0, .int l1, .int l2, .int l3] [.int l3, .ref r13, .int v11, .int l2] rfl ?_
        obtain ⟨v14, hv14, h⟩ := Option.bind_eq_some_iff.mp h
        refine rn_aI rfl hv14 ?_
        refine rn_steps 0 74 [.ref l0, .int l1, .int l2, .int l3] [.int v14, .int v11, .int l2] rfl ?_
        refine rn_br (c := v14 ≤ v11) rfl rfl decide_eq_true_iff (fun hb => ?_) (fun hb => ?_)
        · rw [if_pos hb] at h
          refine rn_steps 1 84 [.ref l0, .int l1, .int l2, .int l3] [.int 0, .int l2] rfl ?_
          exact e255_84 d _ ih _ _ _ _ _ _ _ _ h
        · rw [if_neg hb] at h
          refine rn_steps 4 84 [.ref l0, .int l1, .int l2, .int l3] [.int (1 <<< (l3 &&& 31)), .int l2] rfl ?_
          exact e255_84 d _ ih _ _ _ _ _ _ _ _ h
      · rw [if_pos (Decidable.not_not.mp hb)] at h
        refine rn_steps 1 86 [.ref l0, .int l1, .int l2, .int l3] [] rfl ?_
        exact e255_86 d _ ih _ _ _ _ _ _ h
/-- LastAskedModel.aNight(Z)I -/
noncomputable def f255 (l0 : Nat) (l1 : Int32) (σ : xM) : Option (Int32 × xM) :=
  f255_4 1100 l0 l1 0 0 σ
set_option maxRecDepth 20000 in
set_option maxHeartbeats 1000000 in
theorem e255 (d : Nat) {l0 : Nat} {l1 : Int32} {σ : xM} {y : Int32 × xM} (h : f255 l0 l1 σ = some y) : Rn (d + 5) 255 0 [.ref l0, .int l1, .retAddr 0, .retAddr 0] [] σ (some (.int y.1), y.2) := by
  unfold f255 at h
  refine rn_steps 4 4 [.ref l0, .int l1, .int 0, .int 0] [] rfl ?_
  exact e255_4 d 1100 _ _ _ _ _ _ h
noncomputable def f256_68 (σ : xM) : Option xM :=
  some σ
set_option maxRecDepth 20000 in
set_option maxHeartbeats 1000000 in
theorem e256_68 (d : Nat) (x0 x1 x2 x3 : Value) (σ : xM) (y : xM) (h : f256_68 σ = some y) : Rn (d + 6) 256 68 [x0, x1, x2, x3] [] σ (none, y) := by
  unfold f256_68 at h
  cases h
  exact rn_ret rfl rfl rfl
noncomputable def f256_62 (K20 : Nat → Int32 → Int32 → xM → Option xM) (l0 : Nat) (l2 : Int32) (l3 : Int32) (σ : xM) : Option xM :=
  K20 l0 l2 (l3 + 1) σ
set_option maxRecDepth 20000 in
set_option maxHeartbeats 1000000 in
theorem e256_62 (d : Nat) (K20 : Nat → Int32 → Int32 → xM → Option xM) (hK20 : ∀ (l0 : Nat) (l2 : Int32) (l3 : Int32) (x1 : Value) (σ : xM) (y : xM), K20 l0 l2 l3 σ = some y → Rn (d + 6) 256 20 [.ref l0, x1, .int l2, .int l3] [] σ (none, y)) (l0 : Nat) (l2 : Int32) (l3 : Int32) (x1 : Value) (σ : xM) (y : xM) (h : f256_62 K20 l0 l2 l3 σ = some y) : Rn (d + 6) 256 62 [.ref l0, x1, .int l2, .int l3] [] σ (none, y) := by
  unfold f256_62 at h
  refine rn_steps 2 20 [.ref l0, x1, .int l2, .int (l3 + 1)] [] rfl ?_
  exact hK20 _ _ _ _ _ _ h
noncomputable def f256_20 : Nat → Nat → Int32 → Int32 → xM → Option xM
  | 0, _, _, _, _ => none
  | n + 1, l0, l2, l3, σ =>
    if l2 < l3 then
    f256_68 σ
    else
    (cO σ l0 9).bind fun u8 =>
    (f255 l0 0 σ).bind fun y1 =>
    (gI y1.2 l0 9 36).bind fun v2 =>
    if v2 = (-2) then
    (gR y1.2 l0 9 17).bind fun r3 =>
    (aI y1.2 r3 43).bind fun v4 =>
    (gR y1.2 l0 9 16).bind fun r5 =>
    (aI y1.2 r5 43).bind fun v6 =>
    if v4 ≤ v6 then
    f256_62 (f256_20 n) l0 l2 l3 y1.2
    else
    (pI y1.2 l0 9 36 l3).bind fun σ7 =>
    f256_62 (f256_20 n) l0 l2 l3 σ7
    else
    f256_62 (f256_20 n) l0 l2 l3 y1.2
set_option maxRecDepth 20000 in
set_option maxHeartbeats 1000000 in
theorem e256_20 (d : Nat) : ∀ (n : Nat) (l0 : Nat) (l2 : Int32) (l3 : Int32) (x1 : Value) (σ : xM) (y : xM), f256_20 n l0 l2 l3 σ = some y → Rn (d + 6) 256 20 [.ref l0, x1, .int l2, .int l3] [] σ (none, y) := by
  intro n
  induction n with
  | zero => intro l0 l2 l3 x1 σ y h; cases h
  | succ n ih =>
    intro l0 l2 l3 x1 σ y h
    unfold f256_20 at h
    refine rn_steps 2 22 [.ref l0, x1, .int l2, .int l3] [.int l2, .int l3] rfl ?_
    refine rn_br (c := l2 < l3) rfl rfl decide_eq_true_iff (fun hb => ?_) (fun hb => ?_)
    · rw [if_pos hb] at h
      refine rn_steps 0 68 [.ref l0, x1, .int l2, .int l3] [] rfl ?_
      exact e256_68 d _ _ _ _ _ _ h
    · rw [if_neg hb] at h
      refine rn_steps 2 27 [.ref l0, x1, .int l2, .int l3] [.int 0, .ref l0] rfl ?_
      obtain ⟨u8, hu8, h⟩ := Option.bind_eq_some_iff.mp h
      obtain ⟨y1, hy1, h⟩ := Option.bind_eq_some_iff.mp h
      refine rn_callV [.int 0] rfl rfl ⟨rfl, rfl⟩ hu8 rfl rfl (e255 d hy1) ?_
      refine rn_steps 2 32 [.ref l0, x1, .int l2, .int l3] [.ref l0] rfl ?_
      obtain ⟨v2, hv2, h⟩ := Option.bind_eq_some_iff.mp h
      refine rn_gI (c := 9) (f := 36) rfl rfl ⟨⟨rfl, rfl⟩, Or.inl rfl⟩ hv2 ?_
      refine rn_steps 1 37 [.ref l0, x1, .int l2, .int l3] [.int (-2), .int v2] rfl ?_
      refine rn_br (c := ¬ v2 = (-2)) rfl rfl decide_eq_true_iff (fun hb => ?_) (fun hb => ?_)
      · rw [if_neg hb] at h
        refine rn_steps 0 62 [.ref l0, x1, .int l2, .int l3] [] rfl ?_
        exact e256_62 d _ ih _ _ _ _ _ _ h
      · rw [if_pos (Decidable.not_not.mp hb)] at h
        refine rn_steps 1 41 [.ref l0, x1, .int l2, .int l3] [.ref l0] rfl ?_
        obtain ⟨r3, hr3, h⟩ := Option.bind_eq_some_iff.mp h
        refine rn_gR (c := 9) (f := 17) rfl rfl ⟨⟨rfl, rfl⟩, rfl⟩ hr3 ?_
        refine rn_steps 1 46 [.ref l0, x1, .int l2, .int l3] [.int 43, .ref r3] rfl ?_
        obtain ⟨v4, hv4, h⟩ := Option.bind_eq_some_iff.mp h
        refine rn_aI rfl hv4 ?_
        refine rn_steps 1 48 [.ref l0, x1, .int l2, .int l3] [.ref l0, .int v4] rfl ?_
        obtain ⟨r5, hr5, h⟩ := Option.bind_eq_some_iff.mp h
        refine rn_gR (c := 9) (f := 16) rfl rfl ⟨⟨rfl, rfl⟩, rfl⟩ hr5 ?_
        refine rn_steps 1 53 [.ref l0, x1, .int l2, .int l3] [.int 43, .ref r5, .int v4] rfl ?_
        obtain ⟨v6, hv6, h⟩ := Option.bind_eq_some_iff.mp h
        refine rn_aI rfl hv6 ?_
        refine rn_steps 0 54 [.ref l0, x1, .int l2, .int l3] [.int v6, .int v4] rfl ?_
        refine rn_br (c := v4 ≤ v6) rfl rfl decide_eq_true_iff (fun hb => ?_) (fun hb => ?_)
        · rw [if_pos hb] at h
          refine rn_steps 0 62 [.ref l0, x1, .int l2, .int l3] [] rfl ?_
          exact e256_62 d _ ih _ _ _ _ _ _ h
        · rw [if_neg hb] at h
          refine rn_steps 2 59 [.ref l0, x1, .int l2, .int l3] [.int l3, .ref l0] rfl ?_
          obtain ⟨σ7, hσ7, h⟩ := Option.bind_eq_some_iff.mp h
          refine rn_pI (c := 9) (f := 36) rfl rfl ⟨⟨rfl, rfl⟩, rfl⟩ hσ7 ?_
          refine rn_steps 0 62 [.ref l0, x1, .int l2, .int l3] [] rfl ?_
          exact e256_62 d _ ih _ _ _ _ _ _ h
/-- LastAskedModel.nightsAll(II)V -/
noncomputable def f256 (l0 : Nat) (l1 : Int32) (l2 : Int32) (σ : xM) : Option xM :=
  (cO σ l0 9).bind fun u5 =>
  (f188 l0 σ).bind fun y1 =>
  (gR y1 l0 9 17).bind fun r2 =>
  (tI y1 r2 46 l1).bind fun σ3 =>
  (pI σ3 l0 9 36 (-2)).bind fun σ4 =>
  f256_20 1100 l0 l2 1 σ4
set_option maxRecDepth 20000 in
set_option maxHeartbeats 1000000 in
theorem e256 (d : Nat) {l0 : Nat} {l1 : Int32} {l2 : Int32} {σ : xM} {y : xM} (h : f256 l0 l1 l2 σ = some y) : Rn (d + 6) 256 0 [.ref l0, .int l1, .int l2, .retAddr 0] [] σ (none, y) := by
  unfold f256 at h
  refine rn_steps 1 1 [.ref l0, .int l1, .int l2, .retAddr 0] [.ref l0] rfl ?_
  obtain ⟨u5, hu5, h⟩ := Option.bind_eq_some_iff.mp h
  obtain ⟨y1, hy1, h⟩ := Option.bind_eq_some_iff.mp h
  refine rn_callV [] rfl rfl ⟨rfl, rfl⟩ hu5 rfl rfl (e188 (d + 5) hy1) ?_
  refine rn_steps 1 5 [.ref l0, .int l1, .int l2, .retAddr 0] [.ref l0] rfl ?_
  obtain ⟨r2, hr2, h⟩ := Option.bind_eq_some_iff.mp h
  refine rn_gR (c := 9) (f := 17) rfl rfl ⟨⟨rfl, rfl⟩, rfl⟩ hr2 ?_
  refine rn_steps 2 11 [.ref l0, .int l1, .int l2, .retAddr 0] [.int l1, .int 46, .ref r2] rfl ?_
  obtain ⟨σ3, hσ3, h⟩ := Option.bind_eq_some_iff.mp h
  refine rn_tI rfl hσ3 ?_
  refine rn_steps 2 15 [.ref l0, .int l1, .int l2, .retAddr 0] [.int (-2), .ref l0] rfl ?_
  obtain ⟨σ4, hσ4, h⟩ := Option.bind_eq_some_iff.mp h
  refine rn_pI (c := 9) (f := 36) rfl rfl ⟨⟨rfl, rfl⟩, rfl⟩ hσ4 ?_
  refine rn_steps 2 20 [.ref l0, .int l1, .int l2, .int 1] [] rfl ?_
  exact e256_20 d 1100 _ _ _ _ _ _ h
noncomputable def f257_34 (s0 : Int32) (σ : xM) : Option (Int32 × xM) :=
  some (s0, σ)
set_option maxRecDepth 20000 in
set_option maxHeartbeats 1000000 in
theorem e257_34 (d : Nat) (s0 : Int32) (x0 x1 x2 x3 : Value) (σ : xM) (y : Int32 × xM) (h : f257_34 s0 σ = some y) : Rn (d + 1) 257 34 [x0, x1, x2, x3] [.int s0] σ (some (.int y.1), y.2) := by
  unfold f257_34 at h
  cases h
  exact rn_ret rfl rfl rfl
noncomputable def f257_33 (σ : xM) : Option (Int32 × xM) :=
  f257_34 2 σ
set_option maxRecDepth 20000 in
set_option maxHeartbeats 1000000 in
theorem e257_33 (d : Nat) (x0 x1 x2 x3 : Value) (σ : xM) (y : Int32 × xM) (h : f257_33 σ = some y) : Rn (d + 1) 257 33 [x0, x1, x2, x3] [] σ (some (.int y.1), y.2) := by
  unfold f257_33 at h
  refine rn_steps 1 34 [x0, x1, x2, x3] [.int 2] rfl ?_
  exact e257_34 d _ _ _ _ _ _ _ h
/-- LastAskedModel.refusesSeed(ZII)I -/
noncomputable def f257 (l0 : Nat) (l1 : Int32) (l2 : Int32) (l3 : Int32) (σ : xM) : Option (Int32 × xM) :=
  if l1 = 0 then
  f257_34 1 σ
  else
  (f156 l2 0 65536 σ).bind fun y1 =>
  if y1.1 = 0 then
  f257_33 y1.2
  else
  (f156 l3 0 60 y1.2).bind fun y2 =>
  if y2.1 = 0 then
  f257_33 y2.2
  else
  f257_34 0 y2.2
set_option maxRecDepth 20000 in
set_option maxHeartbeats 1000000 in
theorem e257 (d : Nat) {l0 : Nat} {l1 : Int32} {l2 : Int32} {l3 : Int32} {σ : xM} {y : Int32 × xM} (h : f257 l0 l1 l2 l3 σ = some y) : Rn (d + 1) 257 0 [.ref l0, .int l1, .int l2, .int l3] [] σ (some (.int y.1), y.2) := by
  unfold f257 at h
  refine rn_steps 1 1 [.ref l0, .int l1, .int l2, .int l3] [.int l1] rfl ?_
  refine rn_br (c := ¬ l1 = 0) rfl rfl decide_eq_true_iff (fun hb => ?_) (fun hb => ?_)
  · rw [if_neg hb] at h
    refine rn_steps 3 13 [.ref l0, .int l1, .int l2, .int l3] [.int 65536, .int 0, .int l2] rfl ?_
    obtain ⟨y1, hy1, h⟩ := Option.bind_eq_some_iff.mp h
    refine rn_callS [.int l2, .int 0, .int 65536] rfl rfl rfl ⟨rfl, rfl, rfl⟩ rfl rfl (e156 d hy1) ?_
    refine rn_steps 0 16 [.ref l0, .int l1, .int l2, .int l3] [.int y1.1] rfl ?_
    refine rn_br (c := y1.1 = 0) rfl rfl decide_eq_true_iff (fun hb => ?_) (fun hb => ?_)
    · rw [if_pos hb] at h
      refine rn_steps 0 33 [.ref l0, .int l1, .int l2, .int l3] [] rfl ?_
      exact e257_33 d _ _ _ _ _ _ h
    · rw [if_neg hb] at h
      refine rn_steps 3 23 [.ref l0, .int l1, .int l2, .int l3] [.int 60, .int 0, .int l3] rfl ?_
      obtain ⟨y2, hy2, h⟩ := Option.bind_eq_some_iff.mp h
      refine rn_callS [.int l3, .int 0, .int 60] rfl rfl rfl ⟨rfl, rfl, rfl⟩ rfl rfl (e156 d hy2) ?_
      refine rn_steps 0 26 [.ref l0, .int l1, .int l2, .int l3] [.int y2.1] rfl ?_
      refine rn_br (c := y2.1 = 0) rfl rfl decide_eq_true_iff (fun hb => ?_) (fun hb => ?_)
      · rw [if_pos hb] at h
        refine rn_steps 0 33 [.ref l0, .int l1, .int l2, .int l3] [] rfl ?_
        exact e257_33 d _ _ _ _ _ _ h
      · rw [if_neg hb] at h
        refine rn_steps 2 34 [.ref l0, .int l1, .int l2, .int l3] [.int 0] rfl ?_
        exact e257_34 d _ _ _ _ _ _ _ h
  · rw [if_pos (Decidable.not_not.mp hb)] at h
    refine rn_steps 2 34 [.ref l0, .int l1, .int l2, .int l3] [.int 1] rfl ?_
    exact e257_34 d _ _ _ _ _ _ _ h
/-- LastAskedModel.nights(III)I -/
noncomputable def f258 (l0 : Nat) (l1 : Int32) (l2 : Int32) (l3 : Int32) (σ : xM) : Option (Int32 × xM) :=
  (pI σ l0 9 0 0).bind fun σ1 =>
  (cO σ1 l0 9).bind fun u13 =>
  (f186 l0 l1 σ1).bind fun y2 =>
  (cO y2.2 l0 9).bind fun u12 =>
  (f257 l0 y2.1 l2 l3 y2.2).bind fun y3 =>
  if y3.1 ≤ 0 then
  (cO y3.2 l0 9).bind fun u9 =>
  (f256 l0 l2 l3 y3.2).bind fun y4 =>
  (gR y4 l0 9 17).bind fun r5 =>
  (aI y4 r5 l1).bind fun v6 =>
  (cO y4 l0 9).bind fun u8 =>
  (f154 l0 v6 y4).bind fun y7 =>
  some (y7.1, y7.2)
  else
  (cO y3.2 l0 9).bind fun u11 =>
  (f151 l0 y3.1 y3.2).bind fun y10 =>
  some (y10.1, y10.2)
set_option maxRecDepth 20000 in
set_option maxHeartbeats 1000000 in
theorem e258 (d : Nat) {l0 : Nat} {l1 : Int32} {l2 : Int32} {l3 : Int32} {σ : xM} {y : Int32 × xM} (h : f258 l0 l1 l2 l3 σ = some y) : Rn (d + 7) 258 0 [.ref l0, .int l1, .int l2, .int l3, .retAddr 0] [] σ (some (.int y.1), y.2) := by
  unfold f258 at h
  refine rn_steps 2 2 [.ref l0, .int l1, .int l2, .int l3, .retAddr 0] [.int 0, .ref l0] rfl ?_
  obtain ⟨σ1, hσ1, h⟩ := Option.bind_eq_some_iff.mp h
  refine rn_pI (c := 9) (f := 0) rfl rfl ⟨⟨rfl, rfl⟩, rfl⟩ hσ1 ?_
  refine rn_steps 3 8 [.ref l0, .int l1, .int l2, .int l3, .retAddr 0] [.int l1, .ref l0, .ref l0] rfl ?_
  obtain ⟨u13, hu13, h⟩ := Option.bind_eq_some_iff.mp h
  obtain ⟨y2, hy2, h⟩ := Option.bind_eq_some_iff.mp h
  refine rn_callV [.int l1] rfl rfl ⟨rfl, rfl⟩ hu13 rfl rfl (e186 (d + 6) hy2) ?_
  refine rn_steps 2 13 [.ref l0, .int l1, .int l2, .int l3, .retAddr 0] [.int l3, .int l2, .int y2.1, .ref l0] rfl ?_
  obtain ⟨u12, hu12, h⟩ := Option.bind_eq_some_iff.mp h
  obtain ⟨y3, hy3, h⟩ := Option.bind_eq_some_iff.mp h
  refine rn_callV [.int y2.1, .int l2, .int l3] rfl rfl ⟨rfl, rfl⟩ hu12 rfl rfl (e257 (d + 5) hy3) ?_
  refine rn_steps 2 20 [.ref l0, .int l1, .int l2, .int l3, .int y3.1] [.int y3.1] rfl ?_
  refine rn_br (c := y3.1 ≤ 0) rfl rfl decide_eq_true_iff (fun hb => ?_) (fun hb => ?_)
  · rw [if_pos hb] at h
    refine rn_steps 3 33 [.ref l0, .int l1, .int l2, .int l3, .int y3.1] [.int l3, .int l2, .ref l0] rfl ?_
    obtain ⟨u9, hu9, h⟩ := Option.bind_eq_some_iff.mp h
    obtain ⟨y4, hy4, h⟩ := Option.bind_eq_some_iff.mp h
    refine rn_callV [.int l2, .int l3] rfl rfl ⟨rfl, rfl⟩ hu9 rfl rfl (e256 d hy4) ?_
    refine rn_steps 2 38 [.ref l0, .int l1, .int l2, .int l3, .int y3.1] [.ref l0, .ref l0] rfl ?_
    obtain ⟨r5, hr5, h⟩ := Option.bind_eq_some_iff.mp h
    refine rn_gR (c := 9) (f := 17) rfl rfl ⟨⟨rfl, rfl⟩, rfl⟩ hr5 ?_
    refine rn_steps 1 42 [.ref l0, .int l1, .int l2, .int l3, .int y3.1] [.int l1, .ref r5, .ref l0] rfl ?_
    obtain ⟨v6, hv6, h⟩ := Option.bind_eq_some_iff.mp h
    refine rn_aI rfl hv6 ?_
    refine rn_steps 0 43 [.ref l0, .int l1, .int l2, .int l3, .int y3.1] [.int v6, .ref l0] rfl ?_
    obtain ⟨u8, hu8, h⟩ := Option.bind_eq_some_iff.mp h
    obtain ⟨y7, hy7, h⟩ := Option.bind_eq_some_iff.mp h
    refine rn_callV [.int v6] rfl rfl ⟨rfl, rfl⟩ hu8 rfl rfl (e154 (d + 6) hy7) ?_
    refine rn_steps 0 46 [.ref l0, .int l1, .int l2, .int l3, .int y3.1] [.int y7.1] rfl ?_
    cases h
    exact rn_ret rfl rfl rfl
  · rw [if_neg hb] at h
    refine rn_steps 2 26 [.ref l0, .int l1, .int l2, .int l3, .int y3.1] [.int y3.1, .ref l0] rfl ?_
    obtain ⟨u11, hu11, h⟩ := Option.bind_eq_some_iff.mp h
    obtain ⟨y10, hy10, h⟩ := Option.bind_eq_some_iff.mp h
    refine rn_callV [.int y3.1] rfl rfl ⟨rfl, rfl⟩ hu11 rfl rfl (e151 (d + 6) hy10) ?_
    refine rn_steps 0 29 [.ref l0, .int l1, .int l2, .int l3, .int y3.1] [.int y10.1] rfl ?_
    cases h
    exact rn_ret rfl rfl rfl
noncomputable def f259_18 (l0 : Nat) (l1 : Int32) (l2 : Int32) (s0 : Int32) (s1 : Nat) (σ : xM) : Option (Int32 × xM) :=
  (cO σ s1 9).bind fun u10 =>
  (f257 s1 s0 l1 l2 σ).bind fun y1 =>
  if y1.1 ≤ 0 then
  (cO y1.2 l0 9).bind fun u7 =>
  (f256 l0 l1 l2 y1.2).bind fun y2 =>
  (gR y2 l0 9 17).bind fun r3 =>
  (aI y2 r3 42).bind fun v4 =>
  (cO y2 l0 9).bind fun u6 =>
  (f154 l0 v4 y2).bind fun y5 =>
  some (y5.1, y5.2)
  else
  (cO y1.2 l0 9).bind fun u9 =>
  (f151 l0 y1.1 y1.2).bind fun y8 =>
  some (y8.1, y8.2)
set_option maxRecDepth 20000 in
set_option maxHeartbeats 1000000 in
theorem e259_18 (d : Nat) (l0 : Nat) (l1 : Int32) (l2 : Int32) (s0 : Int32) (s1 : Nat) (x3 : Value) (σ : xM) (y : Int32 × xM) (h : f259_18 l0 l1 l2 s0 s1 σ = some y) : Rn (d + 7) 259 18 [.ref l0, .int l1, .int l2, x3] [.int s0, .ref s1] σ (some (.int y.1), y.2) := by
  unfold f259_18 at h
  refine rn_steps 2 20 [.ref l0, .int l1, .int l2, x3] [.int l2, .int l1, .int s0, .ref s1] rfl ?_
  obtain ⟨u10, hu10, h⟩ := Option.bind_eq_some_iff.mp h
  obtain ⟨y1, hy1, h⟩ := Option.bind_eq_some_iff.mp h
  refine rn_callV [.int s0, .int l1, .int l2] rfl rfl ⟨rfl, rfl⟩ hu10 rfl rfl (e257 (d + 5) hy1) ?_
  refine rn_steps 2 25 [.ref l0, .int l1, .int l2, .int y1.1] [.int y1.1] rfl ?_
  refine rn_br (c := y1.1 ≤ 0) rfl rfl decide_eq_true_iff (fun hb => ?_) (fun hb => ?_)
  · rw [if_pos hb] at h
    refine rn_steps 3 37 [.ref l0, .int l1, .int l2, .int y1.1] [.int l2, .int l1, .ref l0] rfl ?_
    obtain ⟨u7, hu7, h⟩ := Option.bind_eq_some_iff.mp h
    obtain ⟨y2, hy2, h⟩ := Option.bind_eq_some_iff.mp h
    refine rn_callV [.int l1, .int l2] rfl rfl ⟨rfl, rfl⟩ hu7 rfl rfl (e256 d hy2) ?_
    refine rn_steps 2 42 [.ref l0, .int l1, .int l2, .int y1.1] [.ref l0, .ref l0] rfl ?_
    obtain ⟨r3, hr3, h⟩ := Option.bind_eq_some_iff.mp h
    refine rn_gR (c := 9) (f := 17) rfl rfl ⟨⟨rfl, rfl⟩, rfl⟩ hr3 ?_
    refine rn_steps 1 47 [.ref l0, .int l1, .int l2, .int y1.1] [.int 42, .ref r3, .ref l0] rfl ?_
    obtain ⟨v4, hv4, h⟩ := Option.bind_eq_some_iff.mp h
    refine rn_aI rfl hv4 ?_
    refine rn_steps 0 48 [.ref l0, .int l1, .int l2, .int y1.1] [.int v4, .ref l0] rfl ?_
    obtain ⟨u6, hu6, h⟩ := Option.bind_eq_some_iff.mp h
    obtain ⟨y5, hy5, h⟩ := Option.bind_eq_some_iff.mp h
    refine rn_callV [.int v4] rfl rfl ⟨rfl, rfl⟩ hu6 rfl rfl (e154 (d + 6) hy5) ?_
    refine rn_steps 0 51 [.ref l0, .int l1, .int l2, .int y1.1] [.int y5.1] rfl ?_
    cases h
    exact rn_ret rfl rfl rfl
  · rw [if_neg hb] at h
    refine rn_steps 2 30 [.ref l0, .int l1, .int l2, .int y1.1] [.int y1.1, .ref l0] rfl ?_
    obtain ⟨u9, hu9, h⟩ := Option.bind_eq_some_iff.mp h
    obtain ⟨y8, hy8, h⟩ := Option.bind_eq_some_iff.mp h
    refine rn_callV [.int y1.1] rfl rfl ⟨rfl, rfl⟩ hu9 rfl rfl (e151 (d + 6) hy8) ?_
    refine rn_steps 0 33 [.ref l0, .int l1, .int l2, .int y1.1] [.int y8.1] rfl ?_
    cases h
    exact rn_ret rfl rfl rfl
/-- LastAskedModel.lives(II)I -/
noncomputable def f259 (l0 : Nat) (l1 : Int32) (l2 : Int32) (σ : xM) : Option (Int32 × xM) :=
  (pI σ l0 9 0 0).bind fun σ1 =>
  (gQ σ1 l0 9 3).bind fun q2 =>
  match q2 with
  | none =>
  f259_18 l0 l1 l2 0 l0 σ1
  | some b3 =>
  f259_18 l0 l1 l2 1 l0 σ1
set_option maxRecDepth 20000 in
set_option maxHeartbeats 1000000 in
theorem e259 (d : Nat) {l0 : Nat} {l1 : Int32} {l2 : Int32} {σ : xM} {y : Int32 × xM} (h : f259 l0 l1 l2 σ = some y) : Rn (d + 7) 259 0 [.ref l0, .int l1, .int l2, .retAddr 0] [] σ (some (.int y.1), y.2) := by
  unfold f259 at h
  refine rn_steps 2 2 [.ref l0, .int l1, .int l2, .retAddr 0] [.int 0, .ref l0] rfl ?_
  obtain ⟨σ1, hσ1, h⟩ := Option.bind_eq_some_iff.mp h
  refine rn_pI (c := 9) (f := 0) rfl rfl ⟨⟨rfl, rfl⟩, rfl⟩ hσ1 ?_
  refine rn_steps 2 7 [.ref l0, .int l1, .int l2, .retAddr 0] [.ref l0, .ref l0] rfl ?_
  obtain ⟨q2, hq2, h⟩ := Option.bind_eq_some_iff.mp h
  refine rn_gQ (c := 9) (f := 3) rfl rfl ⟨⟨rfl, rfl⟩, rfl⟩ hq2 ?_
  cases q2 with
  | none =>
    dsimp only at h
    refine rn_steps 2 18 [.ref l0, .int l1, .int l2, .retAddr 0] [.int 0, .ref l0] rfl ?_
    exact e259_18 d _ _ _ _ _ _ _ _ h
  | some b3 =>
    dsimp only at h
    refine rn_steps 3 18 [.ref l0, .int l1, .int l2, .retAddr 0] [.int 1, .ref l0] rfl ?_
    exact e259_18 d _ _ _ _ _ _ _ _ h
noncomputable def f260_18 (l0 : Nat) (l1 : Int32) (l2 : Int32) (s0 : Int32) (s1 : Nat) (σ : xM) : Option (Int32 × xM) :=
  (cO σ s1 9).bind fun u9 =>
  (f257 s1 s0 l1 l2 σ).bind fun y1 =>
  if y1.1 ≤ 0 then
  (cO y1.2 l0 9).bind fun u6 =>
  (f256 l0 l1 l2 y1.2).bind fun y2 =>
  (gI y2 l0 9 36).bind fun v3 =>
  (cO y2 l0 9).bind fun u5 =>
  (f154 l0 v3 y2).bind fun y4 =>
  some (y4.1, y4.2)
  else
  (cO y1.2 l0 9).bind fun u8 =>
  (f151 l0 y1.1 y1.2).bind fun y7 =>
  some (y7.1, y7.2)
set_option maxRecDepth 20000 in
set_option maxHeartbeats 1000000 in
theorem e260_18 (d : Nat) (l0 : Nat) (l1 : Int32) (l2 : Int32) (s0 : Int32) (s1 : Nat) (x3 : Value) (σ : xM) (y : Int32 × xM) (h : f260_18 l0 l1 l2 s0 s1 σ = some y) : Rn (d + 7) 260 18 [.ref l0, .int l1, .int l2, x3] [.int s0, .ref s1] σ (some (.int y.1), y.2) := by
  unfold f260_18 at h
  refine rn_steps 2 20 [.ref l0, .int l1, .int l2, x3] [.int l2, .int l1, .int s0, .ref s1] rfl ?_
  obtain ⟨u9, hu9, h⟩ := Option.bind_eq_some_iff.mp h
  obtain ⟨y1, hy1, h⟩ := Option.bind_eq_some_iff.mp h
  refine rn_callV [.int s0, .int l1, .int l2] rfl rfl ⟨rfl, rfl⟩ hu9 rfl rfl (e257 (d + 5) hy1) ?_
  refine rn_steps 2 25 [.ref l0, .int l1, .int l2, .int y1.1] [.int y1.1] rfl ?_
  refine rn_br (c := y1.1 ≤ 0) rfl rfl decide_eq_true_iff (fun hb => ?_) (fun hb => ?_)
  · rw [if_pos hb] at h
    refine rn_steps 3 37 [.ref l0, .int l1, .int l2, .int y1.1] [.int l2, .int l1, .ref l0] rfl ?_
    obtain ⟨u6, hu6, h⟩ := Option.bind_eq_some_iff.mp h
    obtain ⟨y2, hy2, h⟩ := Option.bind_eq_some_iff.mp h
    refine rn_callV [.int l1, .int l2] rfl rfl ⟨rfl, rfl⟩ hu6 rfl rfl (e256 d hy2) ?_
    refine rn_steps 2 42 [.ref l0, .int l1, .int l2, .int y1.1] [.ref l0, .ref l0] rfl ?_
    obtain ⟨v3, hv3, h⟩ := Option.bind_eq_some_iff.mp h
    refine rn_gI (c := 9) (f := 36) rfl rfl ⟨⟨rfl, rfl⟩, Or.inl rfl⟩ hv3 ?_
    refine rn_steps 0 45 [.ref l0, .int l1, .int l2, .int y1.1] [.int v3, .ref l0] rfl ?_
    obtain ⟨u5, hu5, h⟩ := Option.bind_eq_some_iff.mp h
    obtain ⟨y4, hy4, h⟩ := Option.bind_eq_some_iff.mp h
    refine rn_callV [.int v3] rfl rfl ⟨rfl, rfl⟩ hu5 rfl rfl (e154 (d + 6) hy4) ?_
    refine rn_steps 0 48 [.ref l0, .int l1, .int l2, .int y1.1] [.int y4.1] rfl ?_
    cases h
    exact rn_ret rfl rfl rfl
  · rw [if_neg hb] at h
    refine rn_steps 2 30 [.ref l0, .int l1, .int l2, .int y1.1] [.int y1.1, .ref l0] rfl ?_
    obtain ⟨u8, hu8, h⟩ := Option.bind_eq_some_iff.mp h
    obtain ⟨y7, hy7, h⟩ := Option.bind_eq_some_iff.mp h
    refine rn_callV [.int y1.1] rfl rfl ⟨rfl, rfl⟩ hu8 rfl rfl (e151 (d + 6) hy7) ?_
    refine rn_steps 0 33 [.ref l0, .int l1, .int l2, .int y1.1] [.int y7.1] rfl ?_
    cases h
    exact rn_ret rfl rfl rfl
/-- LastAskedModel.firstCat(II)I -/
noncomputable def f260 (l0 : Nat) (l1 : Int32) (l2 : Int32) (σ : xM) : Option (Int32 × xM) :=
  (pI σ l0 9 0 0).bind fun σ1 =>
  (gQ σ1 l0 9 3).bind fun q2 =>
  match q2 with
  | none =>
  f260_18 l0 l1 l2 0 l0 σ1
  | some b3 =>
  f260_18 l0 l1 l2 1 l0 σ1
set_option maxRecDepth 20000 in
set_option maxHeartbeats 1000000 in
theorem e260 (d : Nat) {l0 : Nat} {l1 : Int32} {l2 : Int32} {σ : xM} {y : Int32 × xM} (h : f260 l0 l1 l2 σ = some y) : Rn (d + 7) 260 0 [.ref l0, .int l1, .int l2, .retAddr 0] [] σ (some (.int y.1), y.2) := by
  unfold f260 at h
  refine rn_steps 2 2 [.ref l0, .int l1, .int l2, .retAddr 0] [.int 0, .ref l0] rfl ?_
  obtain ⟨σ1, hσ1, h⟩ := Option.bind_eq_some_iff.mp h
  refine rn_pI (c := 9) (f := 0) rfl rfl ⟨⟨rfl, rfl⟩, rfl⟩ hσ1 ?_
  refine rn_steps 2 7 [.ref l0, .int l1, .int l2, .retAddr 0] [.ref l0, .ref l0] rfl ?_
  obtain ⟨q2, hq2, h⟩ := Option.bind_eq_some_iff.mp h
  refine rn_gQ (c := 9) (f := 3) rfl rfl ⟨⟨rfl, rfl⟩, rfl⟩ hq2 ?_
  cases q2 with
  | none =>
    dsimp only at h
    refine rn_steps 2 18 [.ref l0, .int l1, .int l2, .retAddr 0] [.int 0, .ref l0] rfl ?_
    exact e260_18 d _ _ _ _ _ _ _ _ h
  | some b3 =>
    dsimp only at h
    refine rn_steps 3 18 [.ref l0, .int l1, .int l2, .retAddr 0] [.int 1, .ref l0] rfl ?_
    exact e260_18 d _ _ _ _ _ _ _ _ h
noncomputable def f261_83 (l0 : Nat) (σ : xM) : Option xM :=
  (gI σ l0 9 20).bind fun v1 =>
  (pI σ l0 9 20 (v1 + 1)).bind fun σ2 =>
  some σ2
set_option maxRecDepth 20000 in
set_option maxHeartbeats 1000000 in
theorem e261_83 (d : Nat) (l0 : Nat) (x1 : Value) (σ : xM) (y : xM) (h : f261_83 l0 σ = some y) : Rn (d + 0) 261 83 [.ref l0, x1] [] σ (none, y) := by
  unfold f261_83 at h
  refine rn_steps 2 85 [.ref l0, x1] [.ref l0, .ref l0] rfl ?_
  obtain ⟨v1, hv1, h⟩ := Option.bind_eq_some_iff.mp h
  refine rn_gI (c := 9) (f := 20) rfl rfl ⟨⟨rfl, rfl⟩, Or.inl rfl⟩ hv1 ?_
  refine rn_steps 2 90 [.ref l0, x1] [.int (v1 + 1), .ref l0] rfl ?_
  obtain ⟨σ2, hσ2, h⟩ := Option.bind_eq_some_iff.mp h
  refine rn_pI (c := 9) (f := 20) rfl rfl ⟨⟨rfl, rfl⟩, rfl⟩ hσ2 ?_
  refine rn_steps 0 93 [.ref l0, x1] [] rfl ?_
  cases h
  exact rn_ret rfl rfl rfl
noncomputable def f261_51 : Nat → Nat → Int32 → xM → Option xM
  | 0, _, _, _ => none
  | n + 1, l0, l1, σ =>
    if 47 ≤ l1 then
    f261_83 l0 σ
    else
    (gR σ l0 9 18).bind fun r1 =>
    (gI σ l0 9 20).bind fun v2 =>
    (gR σ l0 9 16).bind fun r3 =>
    (aI σ r3 l1).bind fun v4 =>
    (tI σ r1 ((47 * v2) + l1) v4).bind fun σ5 =>
    (f261_51 n) l0 (l1 + 1) σ5
set_option maxRecDepth 20000 in
set_option maxHeartbeats 1000000 in
theorem e261_51 (d : Nat) : ∀ (n : Nat) (l0 : Nat) (l1 : Int32) (σ : xM) (y : xM), f261_51 n l0 l1 σ = some y → Rn (d + 0) 261 51 [.ref l0, .int l1] [] σ (none, y) := by
  intro n
  induction n with
  | zero => intro l0 l1 σ y h; cases h
  | succ n ih =>
    intro l0 l1 σ y h
    unfold f261_51 at h
    refine rn_steps 2 54 [.ref l0, .int l1] [.int 47, .int l1] rfl ?_
    refine rn_br (c := 47 ≤ l1) rfl rfl decide_eq_true_iff (fun hb => ?_) (fun hb => ?_)
    · rw [if_pos hb] at h
      refine rn_steps 0 83 [.ref l0, .int l1] [] rfl ?_
      exact e261_83 d _ _ _ _ h
    · rw [if_neg hb] at h
      refine rn_steps 1 58 [.ref l0, .int l1] [.ref l0] rfl ?_
      obtain ⟨r1, hr1, h⟩ := Option.bind_eq_some_iff.mp h
      refine rn_gR (c := 9) (f := 18) rfl rfl ⟨⟨rfl, rfl⟩, rfl⟩ hr1 ?_
      refine rn_steps 2 64 [.ref l0, .int l1] [.ref l0, .int 47, .ref r1] rfl ?_
      obtain ⟨v2, hv2, h⟩ := Option.bind_eq_some_iff.mp h
      refine rn_gI (c := 9) (f := 20) rfl rfl ⟨⟨rfl, rfl⟩, Or.inl rfl⟩ hv2 ?_
      refine rn_steps 4 71 [.ref l0, .int l1] [.ref l0, .int ((47 * v2) + l1), .ref r1] rfl ?_
      obtain ⟨r3, hr3, h⟩ := Option.bind_eq_some_iff.mp h
      refine rn_gR (c := 9) (f := 16) rfl rfl ⟨⟨rfl, rfl⟩, rfl⟩ hr3 ?_
      refine rn_steps 1 75 [.ref l0, .int l1] [.int l1, .ref r3, .int ((47 * v2) + l1), .ref r1] rfl ?_
      obtain ⟨v4, hv4, h⟩ := Option.bind_eq_some_iff.mp h
      refine rn_aI rfl hv4 ?_
      refine rn_steps 0 76 [.ref l0, .int l1] [.int v4, .int ((47 * v2) + l1), .ref r1] rfl ?_
      obtain ⟨σ5, hσ5, h⟩ := Option.bind_eq_some_iff.mp h
      refine rn_tI rfl hσ5 ?_
      refine rn_steps 2 51 [.ref l0, .int (l1 + 1)] [] rfl ?_
      exact ih _ _ _ _ h
noncomputable def f261_49 (l0 : Nat) (σ : xM) : Option xM :=
  f261_51 1100 l0 0 σ
set_option maxRecDepth 20000 in
set_option maxHeartbeats 1000000 in
theorem e261_49 (d : Nat) (l0 : Nat) (x1 : Value) (σ : xM) (y : xM) (h : f261_49 l0 σ = some y) : Rn (d + 0) 261 49 [.ref l0, x1] [] σ (none, y) := by
  unfold f261_49 at h
  refine rn_steps 2 51 [.ref l0, .int 0] [] rfl ?_
  exact e261_51 d 1100 _ _ _ _ h
noncomputable def f261_39 (l0 : Nat) (σ : xM) : Option xM :=
  (gI σ l0 9 20).bind fun v1 =>
  (pI σ l0 9 20 (v1 - 1)).bind fun σ2 =>
  f261_49 l0 σ2
set_option maxRecDepth 20000 in
set_option maxHeartbeats 1000000 in
theorem e261_39 (d : Nat) (l0 : Nat) (x1 : Value) (σ : xM) (y : xM) (h : f261_39 l0 σ = some y) : Rn (d + 0) 261 39 [.ref l0, x1] [] σ (none, y) := by
  unfold f261_39 at h
  refine rn_steps 2 41 [.ref l0, x1] [.ref l0, .ref l0] rfl ?_
  obtain ⟨v1, hv1, h⟩ := Option.bind_eq_some_iff.mp h
  refine rn_gI (c := 9) (f := 20) rfl rfl ⟨⟨rfl, rfl⟩, Or.inl rfl⟩ hv1 ?_
  refine rn_steps 2 46 [.ref l0, x1] [.int (v1 - 1), .ref l0] rfl ?_
  obtain ⟨σ2, hσ2, h⟩ := Option.bind_eq_some_iff.mp h
  refine rn_pI (c := 9) (f := 20) rfl rfl ⟨⟨rfl, rfl⟩, rfl⟩ hσ2 ?_
  refine rn_steps 0 49 [.ref l0, x1] [] rfl ?_
  exact e261_49 d _ _ _ _ h
noncomputable def f261_11 : Nat → Nat → Int32 → xM → Option xM
  | 0, _, _, _ => none
  | n + 1, l0, l1, σ =>
    if 705 ≤ l1 then
    f261_39 l0 σ
    else
    (gR σ l0 9 18).bind fun r1 =>
    (gR σ l0 9 18).bind fun r2 =>
    (aI σ r2 (l1 + 47)).bind fun v3 =>
    (tI σ r1 l1 v3).bind fun σ4 =>
    (f261_11 n) l0 (l1 + 1) σ4
set_option maxRecDepth 20000 in
set_option maxHeartbeats 1000000 in
theorem e261_11 (d : Nat) : ∀ (n : Nat) (l0 : Nat) (l1 : Int32) (σ : xM) (y : xM), f261_11 n l0 l1 σ = some y → Rn (d + 0) 261 11 [.ref l0, .int l1] [] σ (none, y) := by
  intro n
  induction n with
  | zero => intro l0 l1 σ y h; cases h
  | succ n ih =>
    intro l0 l1 σ y h
    unfold f261_11 at h
    refine rn_steps 2 15 [.ref l0, .int l1] [.int 705, .int l1] rfl ?_
    refine rn_br (c := 705 ≤ l1) rfl rfl decide_eq_true_iff (fun hb => ?_) (fun hb => ?_)
    · rw [if_pos hb] at h
      refine rn_steps 0 39 [.ref l0, .int l1] [] rfl ?_
      exact e261_39 d _ _ _ _ h
    · rw [if_neg hb] at h
      refine rn_steps 1 19 [.ref l0, .int l1] [.ref l0] rfl ?_
      obtain ⟨r1, hr1, h⟩ := Option.bind_eq_some_iff.mp h
      refine rn_gR (c := 9) (f := 18) rfl rfl ⟨⟨rfl, rfl⟩, rfl⟩ hr1 ?_
      refine rn_steps 2 24 [.ref l0, .int l1] [.ref l0, .int l1, .ref r1] rfl ?_
      obtain ⟨r2, hr2, h⟩ := Option.bind_eq_some_iff.mp h
      refine rn_gR (c := 9) (f := 18) rfl rfl ⟨⟨rfl, rfl⟩, rfl⟩ hr2 ?_
      refine rn_steps 3 31 [.ref l0, .int l1] [.int (l1 + 47), .ref r2, .int l1, .ref r1] rfl ?_
      obtain ⟨v3, hv3, h⟩ := Option.bind_eq_some_iff.mp h
      refine rn_aI rfl hv3 ?_
      refine rn_steps 0 32 [.ref l0, .int l1] [.int v3, .int l1, .ref r1] rfl ?_
      obtain ⟨σ4, hσ4, h⟩ := Option.bind_eq_some_iff.mp h
      refine rn_tI rfl hσ4 ?_
      refine rn_steps 2 11 [.ref l0, .int (l1 + 1)] [] rfl ?_
      exact ih _ _ _ _ h
/-- LastAskedModel.remembers()V -/
noncomputable def f261 (l0 : Nat) (σ : xM) : Option xM :=
  (gI σ l0 9 20).bind fun v1 =>
  if v1 = 16 then
  f261_11 1100 l0 0 σ
  else
  f261_49 l0 σ
set_option maxRecDepth 20000 in
set_option maxHeartbeats 1000000 in
theorem e261 (d : Nat) {l0 : Nat} {σ : xM} {y : xM} (h : f261 l0 σ = some y) : Rn (d + 0) 261 0 [.ref l0, .retAddr 0] [] σ (none, y) := by
  unfold f261 at h
  refine rn_steps 1 1 [.ref l0, .retAddr 0] [.ref l0] rfl ?_
  obtain ⟨v1, hv1, h⟩ := Option.bind_eq_some_iff.mp h
  refine rn_gI (c := 9) (f := 20) rfl rfl ⟨⟨rfl, rfl⟩, Or.inl rfl⟩ hv1 ?_
  refine rn_steps 1 6 [.ref l0, .retAddr 0] [.int 16, .int v1] rfl ?_
  refine rn_br (c := ¬ v1 = 16) rfl rfl decide_eq_true_iff (fun hb => ?_) (fun hb => ?_)
  · rw [if_neg hb] at h
    refine rn_steps 0 49 [.ref l0, .retAddr 0] [] rfl ?_
    exact e261_49 d _ _ _ _ h
  · rw [if_pos (Decidable.not_not.mp hb)] at h
    refine rn_steps 2 11 [.ref l0, .int 0] [] rfl ?_
    exact e261_11 d 1100 _ _ _ _ h
noncomputable def f262_26 (σ : xM) : Option xM :=
  some σ
set_option maxRecDepth 20000 in
set_option maxHeartbeats 1000000 in
theorem e262_26 (d : Nat) (x0 x1 : Value) (σ : xM) (y : xM) (h : f262_26 σ = some y) : Rn (d + 0) 262 26 [x0, x1] [] σ (none, y) := by
  unfold f262_26 at h
  cases h
  exact rn_ret rfl rfl rfl
noncomputable def f262_2 : Nat → Nat → Int32 → xM → Option xM
  | 0, _, _, _ => none
  | n + 1, l0, l1, σ =>
    if 47 ≤ l1 then
    f262_26 σ
    else
    (gR σ l0 9 16).bind fun r1 =>
    (gR σ l0 9 17).bind fun r2 =>
    (aI σ r2 l1).bind fun v3 =>
    (tI σ r1 l1 v3).bind fun σ4 =>
    (f262_2 n) l0 (l1 + 1) σ4
set_option maxRecDepth 20000 in
set_option maxHeartbeats 1000000 in
theorem e262_2 (d : Nat) : ∀ (n : Nat) (l0 : Nat) (l1 : Int32) (σ : xM) (y : xM), f262_2 n l0 l1 σ = some y → Rn (d + 0) 262 2 [.ref l0, .int l1] [] σ (none, y) := by
  intro n
  induction n with
  | zero => intro l0 l1 σ y h; cases h
  | succ n ih =>
    intro l0 l1 σ y h
    unfold f262_2 at h
    refine rn_steps 2 5 [.ref l0, .int l1] [.int 47, .int l1] rfl ?_
    refine rn_br (c := 47 ≤ l1) rfl rfl decide_eq_true_iff (fun hb => ?_) (fun hb => ?_)
    · rw [if_pos hb] at h
      refine rn_steps 0 26 [.ref l0, .int l1] [] rfl ?_
      exact e262_26 d _ _ _ _ h
    · rw [if_neg hb] at h
      refine rn_steps 1 9 [.ref l0, .int l1] [.ref l0] rfl ?_
      obtain ⟨r1, hr1, h⟩ := Option.bind_eq_some_iff.mp h
      refine rn_gR (c := 9) (f := 16) rfl rfl ⟨⟨rfl, rfl⟩, rfl⟩ hr1 ?_
      refine rn_steps 2 14 [.ref l0, .int l1] [.ref l0, .int l1, .ref r1] rfl ?_
      obtain ⟨r2, hr2, h⟩ := Option.bind_eq_some_iff.mp h
      refine rn_gR (c := 9) (f := 17) rfl rfl ⟨⟨rfl, rfl⟩, rfl⟩ hr2 ?_
      refine rn_steps 1 18 [.ref l0, .int l1] [.int l1, .ref r2, .int l1, .ref r1] rfl ?_
      obtain ⟨v3, hv3, h⟩ := Option.bind_eq_some_iff.mp h
      refine rn_aI rfl hv3 ?_
      refine rn_steps 0 19 [.ref l0, .int l1] [.int v3, .int l1, .ref r1] rfl ?_
      obtain ⟨σ4, hσ4, h⟩ := Option.bind_eq_some_iff.mp h
      refine rn_tI rfl hσ4 ?_
      refine rn_steps 2 2 [.ref l0, .int (l1 + 1)] [] rfl ?_
      exact ih _ _ _ _ h
/-- LastAskedModel.stays()V -/
noncomputable def f262 (l0 : Nat) (σ : xM) : Option xM :=
  f262_2 1100 l0 0 σ
set_option maxRecDepth 20000 in
set_option maxHeartbeats 1000000 in
theorem e262 (d : Nat) {l0 : Nat} {σ : xM} {y : xM} (h : f262 l0 σ = some y) : Rn (d + 0) 262 0 [.ref l0, .retAddr 0] [] σ (none, y) := by
  unfold f262 at h
  refine rn_steps 2 2 [.ref l0, .int 0] [] rfl ?_
  exact e262_2 d 1100 _ _ _ _ h
noncomputable def f263_48 (l0 : Nat) (σ : xM) : Option (Int32 × xM) :=
  (cO σ l0 9).bind fun u2 =>
  (f151 l0 5 σ).bind fun y1 =>
  some (y1.1, y1.2)
set_option maxRecDepth 20000 in
set_option maxHeartbeats 1000000 in
theorem e263_48 (d : Nat) (l0 : Nat) (x1 x2 x3 : Value) (σ : xM) (y : Int32 × xM) (h : f263_48 l0 σ = some y) : Rn (d + 2) 263 48 [.ref l0, x1, x2, x3] [] σ (some (.int y.1), y.2) := by
  unfold f263_48 at h
  refine rn_steps 2 50 [.ref l0, x1, x2, x3] [.int 5, .ref l0] rfl ?_
  obtain ⟨u2, hu2, h⟩ := Option.bind_eq_some_iff.mp h
  obtain ⟨y1, hy1, h⟩ := Option.bind_eq_some_iff.mp h
  refine rn_callV [.int 5] rfl rfl ⟨rfl, rfl⟩ hu2 rfl rfl (e151 (d + 1) hy1) ?_
  refine rn_steps 0 53 [.ref l0, x1, x2, x3] [.int y1.1] rfl ?_
  cases h
  exact rn_ret rfl rfl rfl
/-- LastAskedModel.ask(II)I -/
noncomputable def f263 (l0 : Nat) (l1 : Int32) (l2 : Int32) (σ : xM) : Option (Int32 × xM) :=
  (pI σ l0 9 0 0).bind fun σ1 =>
  (cO σ1 l0 9).bind fun u34 =>
  (f187 l0 l1 l2 σ1).bind fun y2 =>
  if y2.1 = 0 then
  (cO y2.2 l0 9).bind fun u33 =>
  (f151 l0 1 y2.2).bind fun y32 =>
  some (y32.1, y32.2)
  else
  (gR y2.2 l0 9 16).bind fun r3 =>
  (aI y2.2 r3 42).bind fun v4 =>
  (f157 v4 l1 y2.2).bind fun y5 =>
  if y5.1 = 0 then
  f263_48 l0 y5.2
  else
  (gR y5.2 l0 9 16).bind fun r6 =>
  (aI y5.2 r6 42).bind fun v7 =>
  (f157 v7 l2 y5.2).bind fun y8 =>
  if y8.1 = 0 then
  f263_48 l0 y8.2
  else
  (gR y8.2 l0 9 3).bind fun r9 =>
  (cO y8.2 r9 8).bind fun u31 =>
  (f148 r9 l1 l2 y8.2).bind fun y10 =>
  if y10.1 = 0 then
  (cO y10.2 l0 9).bind fun u30 =>
  (f151 l0 6 y10.2).bind fun y29 =>
  some (y29.1, y29.2)
  else
  (gR y10.2 l0 9 16).bind fun r11 =>
  (aI y10.2 r11 44).bind fun v12 =>
  if v12 = 999 then
  (cO y10.2 l0 9).bind fun u28 =>
  (f151 l0 3 y10.2).bind fun y27 =>
  some (y27.1, y27.2)
  else
  (cO y10.2 l0 9).bind fun u26 =>
  (f261 l0 y10.2).bind fun y13 =>
  (cO y13 l0 9).bind fun u25 =>
  (f188 l0 y13).bind fun y14 =>
  (gR y14 l0 9 17).bind fun r15 =>
  (aI y14 r15 l1).bind fun v16 =>
  (cO y14 l0 9).bind fun u24 =>
  (f224 l0 l1 l2 y14).bind fun y17 =>
  (cO y17 l0 9).bind fun u23 =>
  (f262 l0 y17).bind fun y18 =>
  (gR y18 l0 9 16).bind fun r19 =>
  (aI y18 r19 l1).bind fun v20 =>
  (cO y18 l0 9).bind fun u22 =>
  (f154 l0 (v20 - v16) y18).bind fun y21 =>
  some (y21.1, y21.2)
set_option maxRecDepth 20000 in
set_option maxHeartbeats 1000000 in
theorem e263 (d : Nat) {l0 : Nat} {l1 : Int32} {l2 : Int32} {σ : xM} {y : Int32 × xM} (h : f263 l0 l1 l2 σ = some y) : Rn (d + 2) 263 0 [.ref l0, .int l1, .int l2, .retAddr 0] [] σ (some (.int y.1), y.2) := by
  unfold f263 at h
  refine rn_steps 2 2 [.ref l0, .int l1, .int l2, .retAddr 0] [.int 0, .ref l0] rfl ?_
  obtain ⟨σ1, hσ1, h⟩ := Option.bind_eq_some_iff.mp h
  refine rn_pI (c := 9) (f := 0) rfl rfl ⟨⟨rfl, rfl⟩, rfl⟩ hσ1 ?_
  refine rn_steps 3 8 [.ref l0, .int l1, .int l2, .retAddr 0] [.int l2, .int l1, .ref l0] rfl ?_
  obtain ⟨u34, hu34, h⟩ := Option.bind_eq_some_iff.mp h
  obtain ⟨y2, hy2, h⟩ := Option.bind_eq_some_iff.mp h
  refine rn_callV [.int l1, .int l2] rfl rfl ⟨rfl, rfl⟩ hu34 rfl rfl (e187 d hy2) ?_
  refine rn_steps 0 11 [.ref l0, .int l1, .int l2, .retAddr 0] [.int y2.1] rfl ?_
  refine rn_br (c := ¬ y2.1 = 0) rfl rfl decide_eq_true_iff (fun hb => ?_) (fun hb => ?_)
  · rw [if_neg hb] at h
    refine rn_steps 1 21 [.ref l0, .int l1, .int l2, .retAddr 0] [.ref l0] rfl ?_
    obtain ⟨r3, hr3, h⟩ := Option.bind_eq_some_iff.mp h
    refine rn_gR (c := 9) (f := 16) rfl rfl ⟨⟨rfl, rfl⟩, rfl⟩ hr3 ?_
    refine rn_steps 1 26 [.ref l0, .int l1, .int l2, .retAddr 0] [.int 42, .ref r3] rfl ?_
    obtain ⟨v4, hv4, h⟩ := Option.bind_eq_some_iff.mp h
    refine rn_aI rfl hv4 ?_
    refine rn_steps 1 28 [.ref l0, .int l1, .int l2, .retAddr 0] [.int l1, .int v4] rfl ?_
    obtain ⟨y5, hy5, h⟩ := Option.bind_eq_some_iff.mp h
    refine rn_callS [.int v4, .int l1] rfl rfl rfl ⟨rfl, rfl, rfl⟩ rfl rfl (e157 (d + 1) hy5) ?_
    refine rn_steps 0 31 [.ref l0, .int l1, .int l2, .retAddr 0] [.int y5.1] rfl ?_
    refine rn_br (c := y5.1 = 0) rfl rfl decide_eq_true_iff (fun hb => ?_) (fun hb => ?_)
    · rw [if_pos hb] at h
      refine rn_steps 0 48 [.ref l0, .int l1, .int l2, .retAddr 0] [] rfl ?_
      exact e263_48 d _ _ _ _ _ _ h
    · rw [if_neg hb] at h
      refine rn_steps 1 35 [.ref l0, .int l1, .int l2, .retAddr 0] [.ref l0] rfl ?_
      obtain ⟨r6, hr6, h⟩ := Option.bind_eq_some_iff.mp h
      refine rn_gR (c := 9) (f := 16) rfl rfl ⟨⟨rfl, rfl⟩, rfl⟩ hr6 ?_
      refine rn_steps 1 40 [.ref l0, .int l1, .int l2, .retAddr 0] [.int 42, .ref r6] rfl ?_
      obtain ⟨v7, hv7, h⟩ := Option.bind_eq_some_iff.mp h
      refine rn_aI rfl hv7 ?_
      refine rn_steps 1 42 [.ref l0, .int l1, .int l2, .retAddr 0] [.int l2, .int v7] rfl ?_
      obtain ⟨y8, hy8, h⟩ := Option.bind_eq_some_iff.mp h
      refine rn_callS [.int v7, .int l2] rfl rfl rfl ⟨rfl, rfl, rfl⟩ rfl rfl (e157 (d + 1) hy8) ?_
      refine rn_steps 0 45 [.ref l0, .int l1, .int l2, .retAddr 0] [.int y8.1] rfl ?_
      refine rn_br (c := ¬ y8.1 = 0) rfl rfl decide_eq_true_iff (fun hb => ?_) (fun hb => ?_)
      · rw [if_neg hb] at h
        refine rn_steps 1 55 [.ref l0, .int l1, .int l2, .retAddr 0] [.ref l0] rfl ?_
        obtain ⟨r9, hr9, h⟩ := Option.bind_eq_some_iff.mp h
        refine rn_gR (c := 9) (f := 3) rfl rfl ⟨⟨rfl, rfl⟩, rfl⟩ hr9 ?_
        refine rn_steps 2 60 [.ref l0, .int l1, .int l2, .retAddr 0] [.int l2, .int l1, .ref r9] rfl ?_
        obtain ⟨u31, hu31, h⟩ := Option.bind_eq_some_iff.mp h
        obtain ⟨y10, hy10, h⟩ := Option.bind_eq_some_iff.mp h
        refine rn_callV [.int l1, .int l2] rfl rfl ⟨rfl, rfl⟩ hu31 rfl rfl (e148 d hy10) ?_
        refine rn_steps 0 63 [.ref l0, .int l1, .int l2, .retAddr 0] [.int y10.1] rfl ?_
        refine rn_br (c := ¬ y10.1 = 0) rfl rfl decide_eq_true_iff (fun hb => ?_) (fun hb => ?_)
        · rw [if_neg hb] at h
          refine rn_steps 1 74 [.ref l0, .int l1, .int l2, .retAddr 0] [.ref l0] rfl ?_
          obtain ⟨r11, hr11, h⟩ := Option.bind_eq_some_iff.mp h
          refine rn_gR (c := 9) (f := 16) rfl rfl ⟨⟨rfl, rfl⟩, rfl⟩ hr11 ?_
          refine rn_steps 1 79 [.ref l0, .int l1, .int l2, .retAddr 0] [.int 44, .ref r11] rfl ?_
          obtain ⟨v12, hv12, h⟩ := Option.bind_eq_some_iff.mp h
          refine rn_aI rfl hv12 ?_
          refine rn_steps 1 83 [.ref l0, .int l1, .int l2, .retAddr 0] [.int 999, .int v12] rfl ?_
          refine rn_br (c := ¬ v12 = 999) rfl rfl decide_eq_true_iff (fun hb => ?_) (fun hb => ?_)
          · rw [if_neg hb] at h
            refine rn_steps 1 93 [.ref l0, .int l1, .int l2, .retAddr 0] [.ref l0] rfl ?_
            obtain ⟨u26, hu26, h⟩ := Option.bind_eq_some_iff.mp h
            obtain ⟨y13, hy13, h⟩ := Option.bind_eq_some_iff.mp h
            refine rn_callV [] rfl rfl ⟨rfl, rfl⟩ hu26 rfl rfl (e261 (d + 1) hy13) ?_
            refine rn_steps 1 97 [.ref l0, .int l1, .int l2, .retAddr 0] [.ref l0] rfl ?_
            obtain ⟨u25, hu25, h⟩ := Option.bind_eq_some_iff.mp h
            obtain ⟨y14, hy14, h⟩ := Option.bind_eq_some_iff.mp h
            refine rn_callV [] rfl rfl ⟨rfl, rfl⟩ hu25 rfl rfl (e188 (d + 1) hy14) ?_
            refine rn_steps 1 101 [.ref l0, .int l1, .int l2, .retAddr 0] [.ref l0] rfl ?_
            obtain ⟨r15, hr15, h⟩ := Option.bind_eq_some_iff.mp h
            refine rn_gR (c := 9) (f := 17) rfl rfl ⟨⟨rfl, rfl⟩, rfl⟩ hr15 ?_
            refine rn_steps 1 105 [.ref l0, .int l1, .int l2, .retAddr 0] [.int l1, .ref r15] rfl ?_
            obtain ⟨v16, hv16, h⟩ := Option.bind_eq_some_iff.mp h
            refine rn_aI rfl hv16 ?_
            refine rn_steps 4 110 [.ref l0, .int l1, .int l2, .int v16] [.int l2, .int l1, .ref l0] rfl ?_
            obtain ⟨u24, hu24, h⟩ := Option.bind_eq_some_iff.mp h
            obtain ⟨y17, hy17, h⟩ := Option.bind_eq_some_iff.mp h
            refine rn_callV [.int l1, .int l2] rfl rfl ⟨rfl, rfl⟩ hu24 rfl rfl (e224 (d + 1) hy17) ?_
            refine rn_steps 1 114 [.ref l0, .int l1, .int l2, .int v16] [.ref l0] rfl ?_
            obtain ⟨u23, hu23, h⟩ := Option.bind_eq_some_iff.mp h
            obtain ⟨y18, hy18, h⟩ := Option.bind_eq_some_iff.mp h
            refine rn_callV [] rfl rfl ⟨rfl, rfl⟩ hu23 rfl rfl (e262 (d + 1) hy18) ?_
            refine rn_steps 2 119 [.ref l0, .int l1, .int l2, .int v16] [.ref l0, .ref l0] rfl ?_
            obtain ⟨r19, hr19, h⟩ := Option.bind_eq_some_iff.mp h
            refine rn_gR (c := 9) (f := 16) rfl rfl ⟨⟨rfl, rfl⟩, rfl⟩ hr19 ?_
            refine rn_steps 1 123 [.ref l0, .int l1, .int l2, .int v16] [.int l1, .ref r19, .ref l0] rfl ?_
            obtain ⟨v20, hv20, h⟩ := Option.bind_eq_some_iff.mp h
            refine rn_aI rfl hv20 ?_
            refine rn_steps 2 126 [.ref l0, .int l1, .int l2, .int v16] [.int (v20 - v16), .ref l0] rfl ?_
            obtain ⟨u22, hu22, h⟩ := Option.bind_eq_some_iff.mp h
            obtain ⟨y21, hy21, h⟩ := Option.bind_eq_some_iff.mp h
            refine rn_callV [.int (v20 - v16)] rfl rfl ⟨rfl, rfl⟩ hu22 rfl rfl (e154 (d + 1) hy21) ?_
            refine rn_steps 0 129 [.ref l0, .int l1, .int l2, .int v16] [.int y21.1] rfl ?_
            cases h
            exact rn_ret rfl rfl rfl
          · rw [if_pos (Decidable.not_not.mp hb)] at h
            refine rn_steps 2 88 [.ref l0, .int l1, .int l2, .retAddr 0] [.int 3, .ref l0] rfl ?_
            obtain ⟨u28, hu28, h⟩ := Option.bind_eq_some_iff.mp h
            obtain ⟨y27, hy27, h⟩ := Option.bind_eq_some_iff.mp h
            refine rn_callV [.int 3] rfl rfl ⟨rfl, rfl⟩ hu28 rfl rfl (e151 (d + 1) hy27) ?_
            refine rn_steps 0 91 [.ref l0, .int l1, .int l2, .retAddr 0] [.int y27.1] rfl ?_
            cases h
            exact rn_ret rfl rfl rfl
        · rw [if_pos (Decidable.not_not.mp hb)] at h
          refine rn_steps 2 69 [.ref l0, .int l1, .int l2, .retAddr 0] [.int 6, .ref l0] rfl ?_
          obtain ⟨u30, hu30, h⟩ := Option.bind_eq_some_iff.mp h
          obtain ⟨y29, hy29, h⟩ := Option.bind_eq_some_iff.mp h
          refine rn_callV [.int 6] rfl rfl ⟨rfl, rfl⟩ hu30 rfl rfl (e151 (d + 1) hy29) ?_
          refine rn_steps 0 72 [.ref l0, .int l1, .int l2, .retAddr 0] [.int y29.1] rfl ?_
          cases h
          exact rn_ret rfl rfl rfl
      · rw [if_pos (Decidable.not_not.mp hb)] at h
        refine rn_steps 0 48 [.ref l0, .int l1, .int l2, .retAddr 0] [] rfl ?_
        exact e263_48 d _ _ _ _ _ _ h
  · rw [if_pos (Decidable.not_not.mp hb)] at h
    refine rn_steps 2 16 [.ref l0, .int l1, .int l2, .retAddr 0] [.int 1, .ref l0] rfl ?_
    obtain ⟨u33, hu33, h⟩ := Option.bind_eq_some_iff.mp h
    obtain ⟨y32, hy32, h⟩ := Option.bind_eq_some_iff.mp h
    refine rn_callV [.int 1] rfl rfl ⟨rfl, rfl⟩ hu33 rfl rfl (e151 (d + 1) hy32) ?_
    refine rn_steps 0 19 [.ref l0, .int l1, .int l2, .retAddr 0] [.int y32.1] rfl ?_
    cases h
    exact rn_ret rfl rfl rfl
/-- LastAskedModel.die(I)I -/
noncomputable def f264 (l0 : Nat) (l1 : Int32) (σ : xM) : Option (Int32 × xM) :=
  (pI σ l0 9 0 0).bind fun σ1 =>
  (cO σ1 l0 9).bind fun u17 =>
  (f203 l0 l1 σ1).bind fun y2 =>
  if y2.1 ≤ 0 then
  (cO y2.2 l0 9).bind fun u14 =>
  (f261 l0 y2.2).bind fun y3 =>
  (cO y3 l0 9).bind fun u13 =>
  (f188 l0 y3).bind fun y4 =>
  (cO y4 l0 9).bind fun u12 =>
  (f192 l0 l1 y4).bind fun y5 =>
  (cO y5.2 l0 9).bind fun u11 =>
  (f196 l0 (1 <<< (l1 &&& 31)) 0 y5.2).bind fun y6 =>
  (cO y6 l0 9).bind fun u10 =>
  (f262 l0 y6).bind fun y7 =>
  (cO y7 l0 9).bind fun u9 =>
  (f154 l0 y5.1 y7).bind fun y8 =>
  some (y8.1, y8.2)
  else
  (cO y2.2 l0 9).bind fun u16 =>
  (f151 l0 y2.1 y2.2).bind fun y15 =>
  some (y15.1, y15.2)
set_option maxRecDepth 20000 in
set_option maxHeartbeats 1000000 in
theorem e264 (d : Nat) {l0 : Nat} {l1 : Int32} {σ : xM} {y : Int32 × xM} (h : f264 l0 l1 σ = some y) : Rn (d + 5) 264 0 [.ref l0, .int l1, .retAddr 0, .retAddr 0] [] σ (some (.int y.1), y.2) := by
  unfold f264 at h
  refine rn_steps 2 2 [.ref l0, .int l1, .retAddr 0, .retAddr 0] [.int 0, .ref l0] rfl ?_
  obtain ⟨σ1, hσ1, h⟩ := Option.bind_eq_some_iff.mp h
  refine rn_pI (c := 9) (f := 0) rfl rfl ⟨⟨rfl, rfl⟩, rfl⟩ hσ1 ?_
  refine rn_steps 2 7 [.ref l0, .int l1, .retAddr 0, .retAddr 0] [.int l1, .ref l0] rfl ?_
  obtain ⟨u17, hu17, h⟩ := Option.bind_eq_some_iff.mp h
  obtain ⟨y2, hy2, h⟩ := Option.bind_eq_some_iff.mp h
  refine rn_callV [.int l1] rfl rfl ⟨rfl, rfl⟩ hu17 rfl rfl (e203 (d + 3) hy2) ?_
  refine rn_steps 2 12 [.ref l0, .int l1, .int y2.1, .retAddr 0] [.int y2.1] rfl ?_
  refine rn_br (c := y2.1 ≤ 0) rfl rfl decide_eq_true_iff (fun hb => ?_) (fun hb => ?_)
  · rw [if_pos hb] at h
    refine rn_steps 1 22 [.ref l0, .int l1, .int y2.1, .retAddr 0] [.ref l0] rfl ?_
    obtain ⟨u14, hu14, h⟩ := Option.bind_eq_some_iff.mp h
    obtain ⟨y3, hy3, h⟩ := Option.bind_eq_some_iff.mp h
    refine rn_callV [] rfl rfl ⟨rfl, rfl⟩ hu14 rfl rfl (e261 (d + 4) hy3) ?_
    refine rn_steps 1 26 [.ref l0, .int l1, .int y2.1, .retAddr 0] [.ref l0] rfl ?_
    obtain ⟨u13, hu13, h⟩ := Option.bind_eq_some_iff.mp h
    obtain ⟨y4, hy4, h⟩ := Option.bind_eq_some_iff.mp h
    refine rn_callV [] rfl rfl ⟨rfl, rfl⟩ hu13 rfl rfl (e188 (d + 4) hy4) ?_
    refine rn_steps 2 31 [.ref l0, .int l1, .int y2.1, .retAddr 0] [.int l1, .ref l0] rfl ?_
    obtain ⟨u12, hu12, h⟩ := Option.bind_eq_some_iff.mp h
    obtain ⟨y5, hy5, h⟩ := Option.bind_eq_some_iff.mp h
    refine rn_callV [.int l1] rfl rfl ⟨rfl, rfl⟩ hu12 rfl rfl (e192 (d + 2) hy5) ?_
    refine rn_steps 6 40 [.ref l0, .int l1, .int y2.1, .int y5.1] [.int 0, .int (1 <<< (l1 &&& 31)), .ref l0] rfl ?_
    obtain ⟨u11, hu11, h⟩ := Option.bind_eq_some_iff.mp h
    obtain ⟨y6, hy6, h⟩ := Option.bind_eq_some_iff.mp h
    refine rn_callV [.int (1 <<< (l1 &&& 31)), .int 0] rfl rfl ⟨rfl, rfl⟩ hu11 rfl rfl (e196 d hy6) ?_
    refine rn_steps 1 44 [.ref l0, .int l1, .int y2.1, .int y5.1] [.ref l0] rfl ?_
    obtain ⟨u10, hu10, h⟩ := Option.bind_eq_some_iff.mp h
    obtain ⟨y7, hy7, h⟩ := Option.bind_eq_some_iff.mp h
    refine rn_callV [] rfl rfl ⟨rfl, rfl⟩ hu10 rfl rfl (e262 (d + 4) hy7) ?_
    refine rn_steps 2 49 [.ref l0, .int l1, .int y2.1, .int y5.1] [.int y5.1, .ref l0] rfl ?_
    obtain ⟨u9, hu9, h⟩ := Option.bind_eq_some_iff.mp h
    obtain ⟨y8, hy8, h⟩ := Option.bind_eq_some_iff.mp h
    refine rn_callV [.int y5.1] rfl rfl ⟨rfl, rfl⟩ hu9 rfl rfl (e154 (d + 4) hy8) ?_
    refine rn_steps 0 52 [.ref l0, .int l1, .int y2.1, .int y5.1] [.int y8.1] rfl ?_
    cases h
    exact rn_ret rfl rfl rfl
  · rw [if_neg hb] at h
    refine rn_steps 2 17 [.ref l0, .int l1, .int y2.1, .retAddr 0] [.int y2.1, .ref l0] rfl ?_
    obtain ⟨u16, hu16, h⟩ := Option.bind_eq_some_iff.mp h
    obtain ⟨y15, hy15, h⟩ := Option.bind_eq_some_iff.mp h
    refine rn_callV [.int y2.1] rfl rfl ⟨rfl, rfl⟩ hu16 rfl rfl (e151 (d + 4) hy15) ?_
    refine rn_steps 0 20 [.ref l0, .int l1, .int y2.1, .retAddr 0] [.int y15.1] rfl ?_
    cases h
    exact rn_ret rfl rfl rfl
/-- LastAskedModel.night()I -/
noncomputable def f265 (l0 : Nat) (σ : xM) : Option (Int32 × xM) :=
  (pI σ l0 9 0 0).bind fun σ1 =>
  (gQ σ1 l0 9 3).bind fun q2 =>
  match q2 with
  | none =>
  (cO σ1 l0 9).bind fun u5 =>
  (f151 l0 1 σ1).bind fun y4 =>
  some (y4.1, y4.2)
  | some b3 =>
  (gR σ1 l0 9 16).bind fun r6 =>
  (aI σ1 r6 45).bind fun v7 =>
  if v7 = 999 then
  (cO σ1 l0 9).bind fun u19 =>
  (f151 l0 3 σ1).bind fun y18 =>
  some (y18.1, y18.2)
  else
  (cO σ1 l0 9).bind fun u17 =>
  (f261 l0 σ1).bind fun y8 =>
  (cO y8 l0 9).bind fun u16 =>
  (f188 l0 y8).bind fun y9 =>
  (cO y9 l0 9).bind fun u15 =>
  (f255 l0 1 y9).bind fun y10 =>
  (cO y10.2 l0 9).bind fun u14 =>
  (f262 l0 y10.2).bind fun y11 =>
  (cO y11 l0 9).bind fun u13 =>
  (f154 l0 y10.1 y11).bind fun y12 =>
  some (y12.1, y12.2)
set_option maxRecDepth 20000 in
set_option maxHeartbeats 1000000 in
theorem e265 (d : Nat) {l0 : Nat} {σ : xM} {y : Int32 × xM} (h : f265 l0 σ = some y) : Rn (d + 6) 265 0 [.ref l0, .retAddr 0] [] σ (some (.int y.1), y.2) := by
  unfold f265 at h
  refine rn_steps 2 2 [.ref l0, .retAddr 0] [.int 0, .ref l0] rfl ?_
  obtain ⟨σ1, hσ1, h⟩ := Option.bind_eq_some_iff.mp h
  refine rn_pI (c := 9) (f := 0) rfl rfl ⟨⟨rfl, rfl⟩, rfl⟩ hσ1 ?_
  refine rn_steps 1 6 [.ref l0, .retAddr 0] [.ref l0] rfl ?_
  obtain ⟨q2, hq2, h⟩ := Option.bind_eq_some_iff.mp h
  refine rn_gQ (c := 9) (f := 3) rfl rfl ⟨⟨rfl, rfl⟩, rfl⟩ hq2 ?_
  cases q2 with
  | none =>
    dsimp only at h
    refine rn_steps 3 14 [.ref l0, .retAddr 0] [.int 1, .ref l0] rfl ?_
    obtain ⟨u5, hu5, h⟩ := Option.bind_eq_some_iff.mp h
    obtain ⟨y4, hy4, h⟩ := Option.bind_eq_some_iff.mp h
    refine rn_callV [.int 1] rfl rfl ⟨rfl, rfl⟩ hu5 rfl rfl (e151 (d + 5) hy4) ?_
    refine rn_steps 0 17 [.ref l0, .retAddr 0] [.int y4.1] rfl ?_
    cases h
    exact rn_ret rfl rfl rfl
  | some b3 =>
    dsimp only at h
    refine rn_steps 2 19 [.ref l0, .retAddr 0] [.ref l0] rfl ?_
    obtain ⟨r6, hr6, h⟩ := Option.bind_eq_some_iff.mp h
    refine rn_gR (c := 9) (f := 16) rfl rfl ⟨⟨rfl, rfl⟩, rfl⟩ hr6 ?_
    refine rn_steps 1 24 [.ref l0, .retAddr 0] [.int 45, .ref r6] rfl ?_
    obtain ⟨v7, hv7, h⟩ := Option.bind_eq_some_iff.mp h
    refine rn_aI rfl hv7 ?_
    refine rn_steps 1 28 [.ref l0, .retAddr 0] [.int 999, .int v7] rfl ?_
    refine rn_br (c := ¬ v7 = 999) rfl rfl decide_eq_true_iff (fun hb => ?_) (fun hb => ?_)
    · rw [if_neg hb] at h
      refine rn_steps 1 38 [.ref l0, .retAddr 0] [.ref l0] rfl ?_
      obtain ⟨u17, hu17, h⟩ := Option.bind_eq_some_iff.mp h
      obtain ⟨y8, hy8, h⟩ := Option.bind_eq_some_iff.mp h
      refine rn_callV [] rfl rfl ⟨rfl, rfl⟩ hu17 rfl rfl (e261 (d + 5) hy8) ?_
      refine rn_steps 1 42 [.ref l0, .retAddr 0] [.ref l0] rfl ?_
      obtain ⟨u16, hu16, h⟩ := Option.bind_eq_some_iff.mp h
      obtain ⟨y9, hy9, h⟩ := Option.bind_eq_some_iff.mp h
      refine rn_callV [] rfl rfl ⟨rfl, rfl⟩ hu16 rfl rfl (e188 (d + 5) hy9) ?_
      refine rn_steps 2 47 [.ref l0, .retAddr 0] [.int 1, .ref l0] rfl ?_
      obtain ⟨u15, hu15, h⟩ := Option.bind_eq_some_iff.mp h
      obtain ⟨y10, hy10, h⟩ := Option.bind_eq_some_iff.mp h
      refine rn_callV [.int 1] rfl rfl ⟨rfl, rfl⟩ hu15 rfl rfl (e255 d hy10) ?_
      refine rn_steps 2 52 [.ref l0, .int y10.1] [.ref l0] rfl ?_
      obtain ⟨u14, hu14, h⟩ := Option.bind_eq_some_iff.mp h
      obtain ⟨y11, hy11, h⟩ := Option.bind_eq_some_iff.mp h
      refine rn_callV [] rfl rfl ⟨rfl, rfl⟩ hu14 rfl rfl (e262 (d + 5) hy11) ?_
      refine rn_steps 2 57 [.ref l0, .int y10.1] [.int y10.1, .ref l0] rfl ?_
      obtain ⟨u13, hu13, h⟩ := Option.bind_eq_some_iff.mp h
      obtain ⟨y12, hy12, h⟩ := Option.bind_eq_some_iff.mp h
      refine rn_callV [.int y10.1] rfl rfl ⟨rfl, rfl⟩ hu13 rfl rfl (e154 (d + 5) hy12) ?_
      refine rn_steps 0 60 [.ref l0, .int y10.1] [.int y12.1] rfl ?_
      cases h
      exact rn_ret rfl rfl rfl
    · rw [if_pos (Decidable.not_not.mp hb)] at h
      refine rn_steps 2 33 [.ref l0, .retAddr 0] [.int 3, .ref l0] rfl ?_
      obtain ⟨u19, hu19, h⟩ := Option.bind_eq_some_iff.mp h
      obtain ⟨y18, hy18, h⟩ := Option.bind_eq_some_iff.mp h
      refine rn_callV [.int 3] rfl rfl ⟨rfl, rfl⟩ hu19 rfl rfl (e151 (d + 5) hy18) ?_
      refine rn_steps 0 36 [.ref l0, .retAddr 0] [.int y18.1] rfl ?_
      cases h
      exact rn_ret rfl rfl rfl
/-- LastAskedModel.seed(I)Z -/
noncomputable def f266 (l0 : Nat) (l1 : Int32) (σ : xM) : Option (Int32 × xM) :=
  (pI σ l0 9 0 0).bind fun σ1 =>
  (gQ σ1 l0 9 3).bind fun q2 =>
  match q2 with
  | none =>
  (cO σ1 l0 9).bind fun u5 =>
  (f153 l0 1 σ1).bind fun y4 =>
  rZ y4.1 y4.2
  | some b3 =>
  (f156 l1 0 65536 σ1).bind fun y6 =>
  if y6.1 = 0 then
  (cO y6.2 l0 9).bind fun u12 =>
  (f153 l0 2 y6.2).bind fun y11 =>
  rZ y11.1 y11.2
  else
  (gR y6.2 l0 9 16).bind fun r7 =>
  (tI y6.2 r7 46 l1).bind fun σ8 =>
  (cO σ8 l0 9).bind fun u10 =>
  (f155 l0 σ8).bind fun y9 =>
  rZ y9.1 y9.2
set_option maxRecDepth 20000 in
set_option maxHeartbeats 1000000 in
theorem e266 (d : Nat) {l0 : Nat} {l1 : Int32} {σ : xM} {y : Int32 × xM} (h : f266 l0 l1 σ = some y) : Rn (d + 2) 266 0 [.ref l0, .int l1] [] σ (some (.int y.1), y.2) := by
  unfold f266 at h
  refine rn_steps 2 2 [.ref l0, .int l1] [.int 0, .ref l0] rfl ?_
  obtain ⟨σ1, hσ1, h⟩ := Option.bind_eq_some_iff.mp h
  refine rn_pI (c := 9) (f := 0) rfl rfl ⟨⟨rfl, rfl⟩, rfl⟩ hσ1 ?_
  refine rn_steps 1 6 [.ref l0, .int l1] [.ref l0] rfl ?_
  obtain ⟨q2, hq2, h⟩ := Option.bind_eq_some_iff.mp h
  refine rn_gQ (c := 9) (f := 3) rfl rfl ⟨⟨rfl, rfl⟩, rfl⟩ hq2 ?_
  cases q2 with
  | none =>
    dsimp only at h
    refine rn_steps 3 14 [.ref l0, .int l1] [.int 1, .ref l0] rfl ?_
    obtain ⟨u5, hu5, h⟩ := Option.bind_eq_some_iff.mp h
    obtain ⟨y4, hy4, h⟩ := Option.bind_eq_some_iff.mp h
    refine rn_callV [.int 1] rfl rfl ⟨rfl, rfl⟩ hu5 rfl rfl (e153 d hy4) ?_
    refine rn_steps 0 17 [.ref l0, .int l1] [.int y4.1] rfl ?_
    exact rn_retZ rfl rfl h
  | some b3 =>
    dsimp only at h
    refine rn_steps 4 23 [.ref l0, .int l1] [.int 65536, .int 0, .int l1] rfl ?_
    obtain ⟨y6, hy6, h⟩ := Option.bind_eq_some_iff.mp h
    refine rn_callS [.int l1, .int 0, .int 65536] rfl rfl rfl ⟨rfl, rfl, rfl⟩ rfl rfl (e156 (d + 1) hy6) ?_
    refine rn_steps 0 26 [.ref l0, .int l1] [.int y6.1] rfl ?_
    refine rn_br (c := ¬ y6.1 = 0) rfl rfl decide_eq_true_iff (fun hb => ?_) (fun hb => ?_)
    · rw [if_neg hb] at h
      refine rn_steps 1 36 [.ref l0, .int l1] [.ref l0] rfl ?_
      obtain ⟨r7, hr7, h⟩ := Option.bind_eq_some_iff.mp h
      refine rn_gR (c := 9) (f := 16) rfl rfl ⟨⟨rfl, rfl⟩, rfl⟩ hr7 ?_
      refine rn_steps 2 42 [.ref l0, .int l1] [.int l1, .int 46, .ref r7] rfl ?_
      obtain ⟨σ8, hσ8, h⟩ := Option.bind_eq_some_iff.mp h
      refine rn_tI rfl hσ8 ?_
      refine rn_steps 1 44 [.ref l0, .int l1] [.ref l0] rfl ?_
      obtain ⟨u10, hu10, h⟩ := Option.bind_eq_some_iff.mp h
      obtain ⟨y9, hy9, h⟩ := Option.bind_eq_some_iff.mp h
      refine rn_callV [] rfl rfl ⟨rfl, rfl⟩ hu10 rfl rfl (e155 d hy9) ?_
      refine rn_steps 0 47 [.ref l0, .int l1] [.int y9.1] rfl ?_
      exact rn_retZ rfl rfl h
    · rw [if_pos (Decidable.not_not.mp hb)] at h
      refine rn_steps 2 31 [.ref l0, .int l1] [.int 2, .ref l0] rfl ?_
      obtain ⟨u12, hu12, h⟩ := Option.bind_eq_some_iff.mp h
      obtain ⟨y11, hy11, h⟩ := Option.bind_eq_some_iff.mp h
      refine rn_callV [.int 2] rfl rfl ⟨rfl, rfl⟩ hu12 rfl rfl (e153 d hy11) ?_
      refine rn_steps 0 34 [.ref l0, .int l1] [.int y11.1] rfl ?_
      exact rn_retZ rfl rfl h
noncomputable def f267_70 (l0 : Nat) (σ : xM) : Option (Int32 × xM) :=
  (cO σ l0 9).bind fun u2 =>
  (f155 l0 σ).bind fun y1 =>
  rZ y1.1 y1.2
set_option maxRecDepth 20000 in
set_option maxHeartbeats 1000000 in
theorem e267_70 (d : Nat) (l0 : Nat) (x1 : Value) (σ : xM) (y : Int32 × xM) (h : f267_70 l0 σ = some y) : Rn (d + 2) 267 70 [.ref l0, x1] [] σ (some (.int y.1), y.2) := by
  unfold f267_70 at h
  refine rn_steps 1 71 [.ref l0, x1] [.ref l0] rfl ?_
  obtain ⟨u2, hu2, h⟩ := Option.bind_eq_some_iff.mp h
  obtain ⟨y1, hy1, h⟩ := Option.bind_eq_some_iff.mp h
  refine rn_callV [] rfl rfl ⟨rfl, rfl⟩ hu2 rfl rfl (e155 d hy1) ?_
  refine rn_steps 0 74 [.ref l0, x1] [.int y1.1] rfl ?_
  exact rn_retZ rfl rfl h
noncomputable def f267_38 : Nat → Nat → Int32 → xM → Option (Int32 × xM)
  | 0, _, _, _ => none
  | n + 1, l0, l1, σ =>
    if 47 ≤ l1 then
    f267_70 l0 σ
    else
    (gR σ l0 9 16).bind fun r1 =>
    (gR σ l0 9 18).bind fun r2 =>
    (gI σ l0 9 20).bind fun v3 =>
    (aI σ r2 ((47 * v3) + l1)).bind fun v4 =>
    (tI σ r1 l1 v4).bind fun σ5 =>
    (f267_38 n) l0 (l1 + 1) σ5
set_option maxRecDepth 20000 in
set_option maxHeartbeats 1000000 in
theorem e267_38 (d : Nat) : ∀ (n : Nat) (l0 : Nat) (l1 : Int32) (σ : xM) (y : Int32 × xM), f267_38 n l0 l1 σ = some y → Rn (d + 2) 267 38 [.ref l0, .int l1] [] σ (some (.int y.1), y.2) := by
  intro n
  induction n with
  | zero => intro l0 l1 σ y h; cases h
  | succ n ih =>
    intro l0 l1 σ y h
    unfold f267_38 at h
    refine rn_steps 2 41 [.ref l0, .int l1] [.int 47, .int l1] rfl ?_
    refine rn_br (c := 47 ≤ l1) rfl rfl decide_eq_true_iff (fun hb => ?_) (fun hb => ?_)
    · rw [if_pos hb] at h
      refine rn_steps 0 70 [.ref l0, .int l1] [] rfl ?_
      exact e267_70 d _ _ _ _ h
    · rw [if_neg hb] at h
      refine rn_steps 1 45 [.ref l0, .int l1] [.ref l0] rfl ?_
      obtain ⟨r1, hr1, h⟩ := Option.bind_eq_some_iff.mp h
      refine rn_gR (c := 9) (f := 16) rfl rfl ⟨⟨rfl, rfl⟩, rfl⟩ hr1 ?_
      refine rn_steps 2 50 [.ref l0, .int l1] [.ref l0, .int l1, .ref r1] rfl ?_
      obtain ⟨r2, hr2, h⟩ := Option.bind_eq_some_iff.mp h
      refine rn_gR (c := 9) (f := 18) rfl rfl ⟨⟨rfl, rfl⟩, rfl⟩ hr2 ?_
      refine rn_steps 2 56 [.ref l0, .int l1] [.ref l0, .int 47, .ref r2, .int l1, .ref r1] rfl ?_
      obtain ⟨v3, hv3, h⟩ := Option.bind_eq_some_iff.mp h
      refine rn_gI (c := 9) (f := 20) rfl rfl ⟨⟨rfl, rfl⟩, Or.inl rfl⟩ hv3 ?_
      refine rn_steps 3 62 [.ref l0, .int l1] [.int ((47 * v3) + l1), .ref r2, .int l1, .ref r1] rfl ?_
      obtain ⟨v4, hv4, h⟩ := Option.bind_eq_some_iff.mp h
      refine rn_aI rfl hv4 ?_
      refine rn_steps 0 63 [.ref l0, .int l1] [.int v4, .int l1, .ref r1] rfl ?_
      obtain ⟨σ5, hσ5, h⟩ := Option.bind_eq_some_iff.mp h
      refine rn_tI rfl hσ5 ?_
      refine rn_steps 2 38 [.ref l0, .int (l1 + 1)] [] rfl ?_
      exact ih _ _ _ _ h
noncomputable def f267_19 (l0 : Nat) (σ : xM) : Option (Int32 × xM) :=
  (cO σ l0 9).bind fun u2 =>
  (f153 l0 6 σ).bind fun y1 =>
  rZ y1.1 y1.2
set_option maxRecDepth 20000 in
set_option maxHeartbeats 1000000 in
theorem e267_19 (d : Nat) (l0 : Nat) (x1 : Value) (σ : xM) (y : Int32 × xM) (h : f267_19 l0 σ = some y) : Rn (d + 2) 267 19 [.ref l0, x1] [] σ (some (.int y.1), y.2) := by
  unfold f267_19 at h
  refine rn_steps 2 22 [.ref l0, x1] [.int 6, .ref l0] rfl ?_
  obtain ⟨u2, hu2, h⟩ := Option.bind_eq_some_iff.mp h
  obtain ⟨y1, hy1, h⟩ := Option.bind_eq_some_iff.mp h
  refine rn_callV [.int 6] rfl rfl ⟨rfl, rfl⟩ hu2 rfl rfl (e153 d hy1) ?_
  refine rn_steps 0 25 [.ref l0, x1] [.int y1.1] rfl ?_
  exact rn_retZ rfl rfl h
/-- LastAskedModel.undo()Z -/
noncomputable def f267 (l0 : Nat) (σ : xM) : Option (Int32 × xM) :=
  (pI σ l0 9 0 0).bind fun σ1 =>
  (gQ σ1 l0 9 3).bind fun q2 =>
  match q2 with
  | none =>
  f267_19 l0 σ1
  | some b3 =>
  (gI σ1 l0 9 20).bind fun v4 =>
  if v4 = 0 then
  f267_19 l0 σ1
  else
  (gI σ1 l0 9 20).bind fun v5 =>
  (pI σ1 l0 9 20 (v5 - 1)).bind fun σ6 =>
  f267_38 1100 l0 0 σ6
set_option maxRecDepth 20000 in
set_option maxHeartbeats 1000000 in
theorem e267 (d : Nat) {l0 : Nat} {σ : xM} {y : Int32 × xM} (h : f267 l0 σ = some y) : Rn (d + 2) 267 0 [.ref l0, .retAddr 0] [] σ (some (.int y.1), y.2) := by
  unfold f267 at h
  refine rn_steps 2 2 [.ref l0, .retAddr 0] [.int 0, .ref l0] rfl ?_
  obtain ⟨σ1, hσ1, h⟩ := Option.bind_eq_some_iff.mp h
  refine rn_pI (c := 9) (f := 0) rfl rfl ⟨⟨rfl, rfl⟩, rfl⟩ hσ1 ?_
  refine rn_steps 1 6 [.ref l0, .retAddr 0] [.ref l0] rfl ?_
  obtain ⟨q2, hq2, h⟩ := Option.bind_eq_some_iff.mp h
  refine rn_gQ (c := 9) (f := 3) rfl rfl ⟨⟨rfl, rfl⟩, rfl⟩ hq2 ?_
  cases q2 with
  | none =>
    dsimp only at h
    refine rn_steps 1 19 [.ref l0, .retAddr 0] [] rfl ?_
    exact e267_19 d _ _ _ _ h
  | some b3 =>
    dsimp only at h
    refine rn_steps 2 13 [.ref l0, .retAddr 0] [.ref l0] rfl ?_
    obtain ⟨v4, hv4, h⟩ := Option.bind_eq_some_iff.mp h
    refine rn_gI (c := 9) (f := 20) rfl rfl ⟨⟨rfl, rfl⟩, Or.inl rfl⟩ hv4 ?_
    refine rn_steps 0 16 [.ref l0, .retAddr 0] [.int v4] rfl ?_
    refine rn_br (c := ¬ v4 = 0) rfl rfl decide_eq_true_iff (fun hb => ?_) (fun hb => ?_)
    · rw [if_neg hb] at h
      refine rn_steps 2 28 [.ref l0, .retAddr 0] [.ref l0, .ref l0] rfl ?_
      obtain ⟨v5, hv5, h⟩ := Option.bind_eq_some_iff.mp h
      refine rn_gI (c := 9) (f := 20) rfl rfl ⟨⟨rfl, rfl⟩, Or.inl rfl⟩ hv5 ?_
      refine rn_steps 2 33 [.ref l0, .retAddr 0] [.int (v5 - 1), .ref l0] rfl ?_
      obtain ⟨σ6, hσ6, h⟩ := Option.bind_eq_some_iff.mp h
      refine rn_pI (c := 9) (f := 20) rfl rfl ⟨⟨rfl, rfl⟩, rfl⟩ hσ6 ?_
      refine rn_steps 2 38 [.ref l0, .int 0] [] rfl ?_
      exact e267_38 d 1100 _ _ _ _ h
    · rw [if_pos (Decidable.not_not.mp hb)] at h
      refine rn_steps 0 19 [.ref l0, .retAddr 0] [] rfl ?_
      exact e267_19 d _ _ _ _ h
noncomputable def f268_66 (l0 : Nat) (σ : xM) : Option (Int32 × xM) :=
  (gI σ l0 9 21).bind fun v1 =>
  (pI σ l0 9 21 (v1 + 1)).bind fun σ2 =>
  (gI σ2 l0 9 21).bind fun v3 =>
  (cO σ2 l0 9).bind fun u5 =>
  (f154 l0 (v3 - 1) σ2).bind fun y4 =>
  some (y4.1, y4.2)
set_option maxRecDepth 20000 in
set_option maxHeartbeats 1000000 in
theorem e268_66 (d : Nat) (l0 : Nat) (x1 : Value) (σ : xM) (y : Int32 × xM) (h : f268_66 l0 σ = some y) : Rn (d + 1) 268 66 [.ref l0, x1] [] σ (some (.int y.1), y.2) := by
  unfold f268_66 at h
  refine rn_steps 2 68 [.ref l0, x1] [.ref l0, .ref l0] rfl ?_
  obtain ⟨v1, hv1, h⟩ := Option.bind_eq_some_iff.mp h
  refine rn_gI (c := 9) (f := 21) rfl rfl ⟨⟨rfl, rfl⟩, Or.inl rfl⟩ hv1 ?_
  refine rn_steps 2 73 [.ref l0, x1] [.int (v1 + 1), .ref l0] rfl ?_
  obtain ⟨σ2, hσ2, h⟩ := Option.bind_eq_some_iff.mp h
  refine rn_pI (c := 9) (f := 21) rfl rfl ⟨⟨rfl, rfl⟩, rfl⟩ hσ2 ?_
  refine rn_steps 2 78 [.ref l0, x1] [.ref l0, .ref l0] rfl ?_
  obtain ⟨v3, hv3, h⟩ := Option.bind_eq_some_iff.mp h
  refine rn_gI (c := 9) (f := 21) rfl rfl ⟨⟨rfl, rfl⟩, Or.inl rfl⟩ hv3 ?_
  refine rn_steps 2 83 [.ref l0, x1] [.int (v3 - 1), .ref l0] rfl ?_
  obtain ⟨u5, hu5, h⟩ := Option.bind_eq_some_iff.mp h
  obtain ⟨y4, hy4, h⟩ := Option.bind_eq_some_iff.mp h
  refine rn_callV [.int (v3 - 1)] rfl rfl ⟨rfl, rfl⟩ hu5 rfl rfl (e154 d hy4) ?_
  refine rn_steps 0 86 [.ref l0, x1] [.int y4.1] rfl ?_
  cases h
  exact rn_ret rfl rfl rfl
noncomputable def f268_34 : Nat → Nat → Int32 → xM → Option (Int32 × xM)
  | 0, _, _, _ => none
  | n + 1, l0, l1, σ =>
    if 47 ≤ l1 then
    f268_66 l0 σ
    else
    (gR σ l0 9 19).bind fun r1 =>
    (gI σ l0 9 21).bind fun v2 =>
    (gR σ l0 9 16).bind fun r3 =>
    (aI σ r3 l1).bind fun v4 =>
    (tI σ r1 ((47 * v2) + l1) v4).bind fun σ5 =>
    (f268_34 n) l0 (l1 + 1) σ5
set_option maxRecDepth 20000 in
set_option maxHeartbeats 1000000 in
theorem e268_34 (d : Nat) : ∀ (n : Nat) (l0 : Nat) (l1 : Int32) (σ : xM) (y : Int32 × xM), f268_34 n l0 l1 σ = some y → Rn (d + 1) 268 34 [.ref l0, .int l1] [] σ (some (.int y.1), y.2) := by
  intro n
  induction n with
  | zero => intro l0 l1 σ y h; cases h
  | succ n ih =>
    intro l0 l1 σ y h
    unfold f268_34 at h
    refine rn_steps 2 37 [.ref l0, .int l1] [.int 47, .int l1] rfl ?_
    refine rn_br (c := 47 ≤ l1) rfl rfl decide_eq_true_iff (fun hb => ?_) (fun hb => ?_)
    · rw [if_pos hb] at h
      refine rn_steps 0 66 [.ref l0, .int l1] [] rfl ?_
      exact e268_66 d _ _ _ _ h
    · rw [if_neg hb] at h
      refine rn_steps 1 41 [.ref l0, .int l1] [.ref l0] rfl ?_
      obtain ⟨r1, hr1, h⟩ := Option.bind_eq_some_iff.mp h
      refine rn_gR (c := 9) (f := 19) rfl rfl ⟨⟨rfl, rfl⟩, rfl⟩ hr1 ?_
      refine rn_steps 2 47 [.ref l0, .int l1] [.ref l0, .int 47, .ref r1] rfl ?_
      obtain ⟨v2, hv2, h⟩ := Option.bind_eq_some_iff.mp h
      refine rn_gI (c := 9) (f := 21) rfl rfl ⟨⟨rfl, rfl⟩, Or.inl rfl⟩ hv2 ?_
      refine rn_steps 4 54 [.ref l0, .int l1] [.ref l0, .int ((47 * v2) + l1), .ref r1] rfl ?_
      obtain ⟨r3, hr3, h⟩ := Option.bind_eq_some_iff.mp h
      refine rn_gR (c := 9) (f := 16) rfl rfl ⟨⟨rfl, rfl⟩, rfl⟩ hr3 ?_
      refine rn_steps 1 58 [.ref l0, .int l1] [.int l1, .ref r3, .int ((47 * v2) + l1), .ref r1] rfl ?_
      obtain ⟨v4, hv4, h⟩ := Option.bind_eq_some_iff.mp h
      refine rn_aI rfl hv4 ?_
      refine rn_steps 0 59 [.ref l0, .int l1] [.int v4, .int ((47 * v2) + l1), .ref r1] rfl ?_
      obtain ⟨σ5, hσ5, h⟩ := Option.bind_eq_some_iff.mp h
      refine rn_tI rfl hσ5 ?_
      refine rn_steps 2 34 [.ref l0, .int (l1 + 1)] [] rfl ?_
      exact ih _ _ _ _ h
/-- LastAskedModel.image()I -/
noncomputable def f268 (l0 : Nat) (σ : xM) : Option (Int32 × xM) :=
  (pI σ l0 9 0 0).bind fun σ1 =>
  (gQ σ1 l0 9 3).bind fun q2 =>
  match q2 with
  | none =>
  (cO σ1 l0 9).bind fun u5 =>
  (f151 l0 1 σ1).bind fun y4 =>
  some (y4.1, y4.2)
  | some b3 =>
  (gI σ1 l0 9 21).bind fun v6 =>
  if v6 = 3 then
  (cO σ1 l0 9).bind fun u8 =>
  (f151 l0 3 σ1).bind fun y7 =>
  some (y7.1, y7.2)
  else
  f268_34 1100 l0 0 σ1
set_option maxRecDepth 20000 in
set_option maxHeartbeats 1000000 in
theorem e268 (d : Nat) {l0 : Nat} {σ : xM} {y : Int32 × xM} (h : f268 l0 σ = some y) : Rn (d + 1) 268 0 [.ref l0, .retAddr 0] [] σ (some (.int y.1), y.2) := by
  unfold f268 at h
  refine rn_steps 2 2 [.ref l0, .retAddr 0] [.int 0, .ref l0] rfl ?_
  obtain ⟨σ1, hσ1, h⟩ := Option.bind_eq_some_iff.mp h
  refine rn_pI (c := 9) (f := 0) rfl rfl ⟨⟨rfl, rfl⟩, rfl⟩ hσ1 ?_
  refine rn_steps 1 6 [.ref l0, .retAddr 0] [.ref l0] rfl ?_
  obtain ⟨q2, hq2, h⟩ := Option.bind_eq_some_iff.mp h
  refine rn_gQ (c := 9) (f := 3) rfl rfl ⟨⟨rfl, rfl⟩, rfl⟩ hq2 ?_
  cases q2 with
  | none =>
    dsimp only at h
    refine rn_steps 3 14 [.ref l0, .retAddr 0] [.int 1, .ref l0] rfl ?_
    obtain ⟨u5, hu5, h⟩ := Option.bind_eq_some_iff.mp h
    obtain ⟨y4, hy4, h⟩ := Option.bind_eq_some_iff.mp h
    refine rn_callV [.int 1] rfl rfl ⟨rfl, rfl⟩ hu5 rfl rfl (e151 d hy4) ?_
    refine rn_steps 0 17 [.ref l0, .retAddr 0] [.int y4.1] rfl ?_
    cases h
    exact rn_ret rfl rfl rfl
  | some b3 =>
    dsimp only at h
    refine rn_steps 2 19 [.ref l0, .retAddr 0] [.ref l0] rfl ?_
    obtain ⟨v6, hv6, h⟩ := Option.bind_eq_some_iff.mp h
    refine rn_gI (c := 9) (f := 21) rfl rfl ⟨⟨rfl, rfl⟩, Or.inl rfl⟩ hv6 ?_
    refine rn_steps 1 23 [.ref l0, .retAddr 0] [.int 3, .int v6] rfl ?_
    refine rn_br (c := ¬ v6 = 3) rfl rfl decide_eq_true_iff (fun hb => ?_) (fun hb => ?_)
    · rw [if_neg hb] at h
      refine rn_steps 2 34 [.ref l0, .int 0] [] rfl ?_
      exact e268_34 d 1100 _ _ _ _ h
    · rw [if_pos (Decidable.not_not.mp hb)] at h
      refine rn_steps 2 28 [.ref l0, .retAddr 0] [.int 3, .ref l0] rfl ?_
      obtain ⟨u8, hu8, h⟩ := Option.bind_eq_some_iff.mp h
      obtain ⟨y7, hy7, h⟩ := Option.bind_eq_some_iff.mp h
      refine rn_callV [.int 3] rfl rfl ⟨rfl, rfl⟩ hu8 rfl rfl (e151 d hy7) ?_
      refine rn_steps 0 31 [.ref l0, .retAddr 0] [.int y7.1] rfl ?_
      cases h
      exact rn_ret rfl rfl rfl
noncomputable def f269_61 (l0 : Nat) (σ : xM) : Option (Int32 × xM) :=
  (pI σ l0 9 20 0).bind fun σ1 =>
  (cO σ1 l0 9).bind fun u3 =>
  (f155 l0 σ1).bind fun y2 =>
  rZ y2.1 y2.2
set_option maxRecDepth 20000 in
set_option maxHeartbeats 1000000 in
theorem e269_61 (d : Nat) (l0 : Nat) (x1 x2 : Value) (σ : xM) (y : Int32 × xM) (h : f269_61 l0 σ = some y) : Rn (d + 2) 269 61 [.ref l0, x1, x2] [] σ (some (.int y.1), y.2) := by
  unfold f269_61 at h
  refine rn_steps 2 63 [.ref l0, x1, x2] [.int 0, .ref l0] rfl ?_
  obtain ⟨σ1, hσ1, h⟩ := Option.bind_eq_some_iff.mp h
  refine rn_pI (c := 9) (f := 20) rfl rfl ⟨⟨rfl, rfl⟩, rfl⟩ hσ1 ?_
  refine rn_steps 1 67 [.ref l0, x1, x2] [.ref l0] rfl ?_
  obtain ⟨u3, hu3, h⟩ := Option.bind_eq_some_iff.mp h
  obtain ⟨y2, hy2, h⟩ := Option.bind_eq_some_iff.mp h
  refine rn_callV [] rfl rfl ⟨rfl, rfl⟩ hu3 rfl rfl (e155 d hy2) ?_
  refine rn_steps 0 70 [.ref l0, x1, x2] [.int y2.1] rfl ?_
  exact rn_retZ rfl rfl h
noncomputable def f269_32 : Nat → Nat → Int32 → Int32 → xM → Option (Int32 × xM)
  | 0, _, _, _, _ => none
  | n + 1, l0, l1, l2, σ =>
    if 47 ≤ l2 then
    f269_61 l0 σ
    else
    (gR σ l0 9 16).bind fun r1 =>
    (gR σ l0 9 19).bind fun r2 =>
    (aI σ r2 ((47 * l1) + l2)).bind fun v3 =>
    (tI σ r1 l2 v3).bind fun σ4 =>
    (f269_32 n) l0 l1 (l2 + 1) σ4
set_option maxRecDepth 20000 in
set_option maxHeartbeats 1000000 in
theorem e269_32 (d : Nat) : ∀ (n : Nat) (l0 : Nat) (l1 : Int32) (l2 : Int32) (σ : xM) (y : Int32 × xM), f269_32 n l0 l1 l2 σ = some y → Rn (d + 2) 269 32 [.ref l0, .int l1, .int l2] [] σ (some (.int y.1), y.2) := by
  intro n
  induction n with
  | zero => intro l0 l1 l2 σ y h; cases h
  | succ n ih =>
    intro l0 l1 l2 σ y h
    unfold f269_32 at h
    refine rn_steps 2 35 [.ref l0, .int l1, .int l2] [.int 47, .int l2] rfl ?_
    refine rn_br (c := 47 ≤ l2) rfl rfl decide_eq_true_iff (fun hb => ?_) (fun hb => ?_)
    · rw [if_pos hb] at h
      refine rn_steps 0 61 [.ref l0, .int l1, .int l2] [] rfl ?_
      exact e269_61 d _ _ _ _ _ h
    · rw [if_neg hb] at h
      refine rn_steps 1 39 [.ref l0, .int l1, .int l2] [.ref l0] rfl ?_
      obtain ⟨r1, hr1, h⟩ := Option.bind_eq_some_iff.mp h
      refine rn_gR (c := 9) (f := 16) rfl rfl ⟨⟨rfl, rfl⟩, rfl⟩ hr1 ?_
      refine rn_steps 2 44 [.ref l0, .int l1, .int l2] [.ref l0, .int l2, .ref r1] rfl ?_
      obtain ⟨r2, hr2, h⟩ := Option.bind_eq_some_iff.mp h
      refine rn_gR (c := 9) (f := 19) rfl rfl ⟨⟨rfl, rfl⟩, rfl⟩ hr2 ?_
      refine rn_steps 5 53 [.ref l0, .int l1, .int l2] [.int ((47 * l1) + l2), .ref r2, .int l2, .ref r1] rfl ?_
      obtain ⟨v3, hv3, h⟩ := Option.bind_eq_some_iff.mp h
      refine rn_aI rfl hv3 ?_
      refine rn_steps 0 54 [.ref l0, .int l1, .int l2] [.int v3, .int l2, .ref r1] rfl ?_
      obtain ⟨σ4, hσ4, h⟩ := Option.bind_eq_some_iff.mp h
      refine rn_tI rfl hσ4 ?_
      refine rn_steps 2 32 [.ref l0, .int l1, .int (l2 + 1)] [] rfl ?_
      exact ih _ _ _ _ _ h
noncomputable def f269_24 (l0 : Nat) (σ : xM) : Option (Int32 × xM) :=
  (cO σ l0 9).bind fun u2 =>
  (f153 l0 1 σ).bind fun y1 =>
  rZ y1.1 y1.2
set_option maxRecDepth 20000 in
set_option maxHeartbeats 1000000 in
theorem e269_24 (d : Nat) (l0 : Nat) (x1 x2 : Value) (σ : xM) (y : Int32 × xM) (h : f269_24 l0 σ = some y) : Rn (d + 2) 269 24 [.ref l0, x1, x2] [] σ (some (.int y.1), y.2) := by
  unfold f269_24 at h
  refine rn_steps 2 26 [.ref l0, x1, x2] [.int 1, .ref l0] rfl ?_
  obtain ⟨u2, hu2, h⟩ := Option.bind_eq_some_iff.mp h
  obtain ⟨y1, hy1, h⟩ := Option.bind_eq_some_iff.mp h
  refine rn_callV [.int 1] rfl rfl ⟨rfl, rfl⟩ hu2 rfl rfl (e153 d hy1) ?_
  refine rn_steps 0 29 [.ref l0, x1, x2] [.int y1.1] rfl ?_
  exact rn_retZ rfl rfl h
/-- LastAskedModel.back(I)Z -/
noncomputable def f269 (l0 : Nat) (l1 : Int32) (σ : xM) : Option (Int32 × xM) :=
  (pI σ l0 9 0 0).bind fun σ1 =>
  (gQ σ1 l0 9 3).bind fun q2 =>
  match q2 with
  | none =>
  f269_24 l0 σ1
  | some b3 =>
  if l1 < 0 then
  f269_24 l0 σ1
  else
  (gI σ1 l0 9 21).bind fun v4 =>
  if l1 < v4 then
  f269_32 1100 l0 l1 0 σ1
  else
  f269_24 l0 σ1
set_option maxRecDepth 20000 in
set_option maxHeartbeats 1000000 in
theorem e269 (d : Nat) {l0 : Nat} {l1 : Int32} {σ : xM} {y : Int32 × xM} (h : f269 l0 l1 σ = some y) : Rn (d + 2) 269 0 [.ref l0, .int l1, .retAddr 0] [] σ (some (.int y.1), y.2) := by
  unfold f269 at h
  refine rn_steps 2 2 [.ref l0, .int l1, .retAddr 0] [.int 0, .ref l0] rfl ?_
  obtain ⟨σ1, hσ1, h⟩ := Option.bind_eq_some_iff.mp h
  refine rn_pI (c := 9) (f := 0) rfl rfl ⟨⟨rfl, rfl⟩, rfl⟩ hσ1 ?_
  refine rn_steps 1 6 [.ref l0, .int l1, .retAddr 0] [.ref l0] rfl ?_
  obtain ⟨q2, hq2, h⟩ := Option.bind_eq_some_iff.mp h
  refine rn_gQ (c := 9) (f := 3) rfl rfl ⟨⟨rfl, rfl⟩, rfl⟩ hq2 ?_
  cases q2 with
  | none =>
    dsimp only at h
    refine rn_steps 1 24 [.ref l0, .int l1, .retAddr 0] [] rfl ?_
    exact e269_24 d _ _ _ _ _ h
  | some b3 =>
    dsimp only at h
    refine rn_steps 2 13 [.ref l0, .int l1, .retAddr 0] [.int l1] rfl ?_
    refine rn_br (c := l1 < 0) rfl rfl decide_eq_true_iff (fun hb => ?_) (fun hb => ?_)
    · rw [if_pos hb] at h
      refine rn_steps 0 24 [.ref l0, .int l1, .retAddr 0] [] rfl ?_
      exact e269_24 d _ _ _ _ _ h
    · rw [if_neg hb] at h
      refine rn_steps 2 18 [.ref l0, .int l1, .retAddr 0] [.ref l0, .int l1] rfl ?_
      obtain ⟨v4, hv4, h⟩ := Option.bind_eq_some_iff.mp h
      refine rn_gI (c := 9) (f := 21) rfl rfl ⟨⟨rfl, rfl⟩, Or.inl rfl⟩ hv4 ?_
      refine rn_steps 0 21 [.ref l0, .int l1, .retAddr 0] [.int v4, .int l1] rfl ?_
      refine rn_br (c := l1 < v4) rfl rfl decide_eq_true_iff (fun hb => ?_) (fun hb => ?_)
      · rw [if_pos hb] at h
        refine rn_steps 2 32 [.ref l0, .int l1, .int 0] [] rfl ?_
        exact e269_32 d 1100 _ _ _ _ _ h
      · rw [if_neg hb] at h
        refine rn_steps 0 24 [.ref l0, .int l1, .retAddr 0] [] rfl ?_
        exact e269_24 d _ _ _ _ _ h
noncomputable def f270_75 (l0 : Nat) (σ : xM) : Option (Int32 × xM) :=
  (pI σ l0 9 0 1).bind fun σ1 =>
  some (0, σ1)
set_option maxRecDepth 20000 in
set_option maxHeartbeats 1000000 in
theorem e270_75 (d : Nat) (l0 : Nat) (x1 x2 x3 : Value) (σ : xM) (y : Int32 × xM) (h : f270_75 l0 σ = some y) : Rn (d + 3) 270 75 [.ref l0, x1, x2, x3] [] σ (some (.int y.1), y.2) := by
  unfold f270_75 at h
  refine rn_steps 2 77 [.ref l0, x1, x2, x3] [.int 1, .ref l0] rfl ?_
  obtain ⟨σ1, hσ1, h⟩ := Option.bind_eq_some_iff.mp h
  refine rn_pI (c := 9) (f := 0) rfl rfl ⟨⟨rfl, rfl⟩, rfl⟩ hσ1 ?_
  refine rn_steps 1 81 [.ref l0, x1, x2, x3] [.int 0] rfl ?_
  cases h
  exact rn_ret rfl rfl rfl
noncomputable def f270_69 (K20 : Nat → Int32 → Int32 → Int32 → xM → Option (Int32 × xM)) (l0 : Nat) (l1 : Int32) (l2 : Int32) (l3 : Int32) (σ : xM) : Option (Int32 × xM) :=
  K20 l0 l1 l2 (l3 + 1) σ
set_option maxRecDepth 20000 in
set_option maxHeartbeats 1000000 in
theorem e270_69 (d : Nat) (K20 : Nat → Int32 → Int32 → Int32 → xM → Option (Int32 × xM)) (hK20 : ∀ (l0 : Nat) (l1 : Int32) (l2 : Int32) (l3 : Int32) (σ : xM) (y : Int32 × xM), K20 l0 l1 l2 l3 σ = some y → Rn (d + 3) 270 20 [.ref l0, .int l1, .int l2, .int l3] [] σ (some (.int y.1), y.2)) (l0 : Nat) (l1 : Int32) (l2 : Int32) (l3 : Int32) (σ : xM) (y : Int32 × xM) (h : f270_69 K20 l0 l1 l2 l3 σ = some y) : Rn (d + 3) 270 69 [.ref l0, .int l1, .int l2, .int l3] [] σ (some (.int y.1), y.2) := by
  unfold f270_69 at h
  refine rn_steps 2 20 [.ref l0, .int l1, .int l2, .int (l3 + 1)] [] rfl ?_
  exact hK20 _ _ _ _ _ _ h
noncomputable def f270_20 : Nat → Nat → Int32 → Int32 → Int32 → xM → Option (Int32 × xM)
  | 0, _, _, _, _, _ => none
  | n + 1, l0, l1, l2, l3, σ =>
    (gQ σ l0 9 3).bind fun q1 =>
    match q1 with
    | none =>
    f270_75 l0 σ
    | some b2 =>
    (gR σ l0 9 3).bind fun r3 =>
    (gI σ r3 8 2).bind fun v4 =>
    if v4 ≤ l3 then
    f270_75 l0 σ
    else
    (cO σ l0 9).bind fun u8 =>
    (f190 l0 l3 σ).bind fun y5 =>
    if y5.1 = 0 then
    f270_69 (f270_20 n) l0 l1 l2 l3 y5.2
    else
    (cO y5.2 l0 9).bind fun u7 =>
    (f192 l0 l3 y5.2).bind fun y6 =>
    if y6.1 = (-2) then
    if l2 = l1 then
    some (l3, y6.2)
    else
    f270_69 (f270_20 n) l0 l1 (l2 + 1) l3 y6.2
    else
    f270_69 (f270_20 n) l0 l1 l2 l3 y6.2
set_option maxRecDepth 20000 in
set_option maxHeartbeats 1000000 in
theorem e270_20 (d : Nat) : ∀ (n : Nat) (l0 : Nat) (l1 : Int32) (l2 : Int32) (l3 : Int32) (σ : xM) (y : Int32 × xM), f270_20 n l0 l1 l2 l3 σ = some y → Rn (d + 3) 270 20 [.ref l0, .int l1, .int l2, .int l3] [] σ (some (.int y.1), y.2) := by
  intro n
  induction n with
  | zero => intro l0 l1 l2 l3 σ y h; cases h
  | succ n ih =>
    intro l0 l1 l2 l3 σ y h
    unfold f270_20 at h
    refine rn_steps 1 21 [.ref l0, .int l1, .int l2, .int l3] [.ref l0] rfl ?_
    obtain ⟨q1, hq1, h⟩ := Option.bind_eq_some_iff.mp h
    refine rn_gQ (c := 9) (f := 3) rfl rfl ⟨⟨rfl, rfl⟩, rfl⟩ hq1 ?_
    cases q1 with
    | none =>
      dsimp only at h
      refine rn_steps 1 75 [.ref l0, .int l1, .int l2, .int l3] [] rfl ?_
      exact e270_75 d _ _ _ _ _ _ h
    | some b2 =>
      dsimp only at h
      refine rn_steps 3 29 [.ref l0, .int l1, .int l2, .int l3] [.ref l0, .int l3] rfl ?_
      obtain ⟨r3, hr3, h⟩ := Option.bind_eq_some_iff.mp h
      refine rn_gR (c := 9) (f := 3) rfl rfl ⟨⟨rfl, rfl⟩, rfl⟩ hr3 ?_
      refine rn_steps 0 32 [.ref l0, .int l1, .int l2, .int l3] [.ref r3, .int l3] rfl ?_
      obtain ⟨v4, hv4, h⟩ := Option.bind_eq_some_iff.mp h
      refine rn_gI (c := 8) (f := 2) rfl rfl ⟨⟨rfl, rfl⟩, Or.inl rfl⟩ hv4 ?_
      refine rn_steps 0 35 [.ref l0, .int l1, .int l2, .int l3] [.int v4, .int l3] rfl ?_
      refine rn_br (c := v4 ≤ l3) rfl rfl decide_eq_true_iff (fun hb => ?_) (fun hb => ?_)
      · rw [if_pos hb] at h
        refine rn_steps 0 75 [.ref l0, .int l1, .int l2, .int l3] [] rfl ?_
        exact e270_75 d _ _ _ _ _ _ h
      · rw [if_neg hb] at h
        refine rn_steps 2 40 [.ref l0, .int l1, .int l2, .int l3] [.int l3, .ref l0] rfl ?_
        obtain ⟨u8, hu8, h⟩ := Option.bind_eq_some_iff.mp h
        obtain ⟨y5, hy5, h⟩ := Option.bind_eq_some_iff.mp h
        refine rn_callV [.int l3] rfl rfl ⟨rfl, rfl⟩ hu8 rfl rfl (e190 (d + 1) hy5) ?_
        refine rn_steps 0 43 [.ref l0, .int l1, .int l2, .int l3] [.int y5.1] rfl ?_
        refine rn_br (c := y5.1 = 0) rfl rfl decide_eq_true_iff (fun hb => ?_) (fun hb => ?_)
        · rw [if_pos hb] at h
          refine rn_steps 0 69 [.ref l0, .int l1, .int l2, .int l3] [] rfl ?_
          exact e270_69 d _ ih _ _ _ _ _ _ h
        · rw [if_neg hb] at h
          refine rn_steps 2 48 [.ref l0, .int l1, .int l2, .int l3] [.int l3, .ref l0] rfl ?_
          obtain ⟨u7, hu7, h⟩ := Option.bind_eq_some_iff.mp h
          obtain ⟨y6, hy6, h⟩ := Option.bind_eq_some_iff.mp h
          refine rn_callV [.int l3] rfl rfl ⟨rfl, rfl⟩ hu7 rfl rfl (e192 d hy6) ?_
          refine rn_steps 1 53 [.ref l0, .int l1, .int l2, .int l3] [.int (-2), .int y6.1] rfl ?_
          refine rn_br (c := y6.1 = (-2)) rfl rfl decide_eq_true_iff (fun hb => ?_) (fun hb => ?_)
          · rw [if_pos hb] at h
            refine rn_steps 2 61 [.ref l0, .int l1, .int l2, .int l3] [.int l1, .int l2] rfl ?_
            refine rn_br (c := ¬ l2 = l1) rfl rfl decide_eq_true_iff (fun hb => ?_) (fun hb => ?_)
            · rw [if_neg hb] at h
              refine rn_steps 1 69 [.ref l0, .int l1, .int (l2 + 1), .int l3] [] rfl ?_
              exact e270_69 d _ ih _ _ _ _ _ _ h
            · rw [if_pos (Decidable.not_not.mp hb)] at h
              refine rn_steps 1 65 [.ref l0, .int l1, .int l2, .int l3] [.int l3] rfl ?_
              cases h
              exact rn_ret rfl rfl rfl
          · rw [if_neg hb] at h
            refine rn_steps 1 69 [.ref l0, .int l1, .int l2, .int l3] [] rfl ?_
            exact e270_69 d _ ih _ _ _ _ _ _ h
noncomputable def f270_18 (l0 : Nat) (l1 : Int32) (l2 : Int32) (σ : xM) : Option (Int32 × xM) :=
  f270_20 1100 l0 l1 l2 0 σ
set_option maxRecDepth 20000 in
set_option maxHeartbeats 1000000 in
theorem e270_18 (d : Nat) (l0 : Nat) (l1 : Int32) (l2 : Int32) (x3 : Value) (σ : xM) (y : Int32 × xM) (h : f270_18 l0 l1 l2 σ = some y) : Rn (d + 3) 270 18 [.ref l0, .int l1, .int l2, x3] [] σ (some (.int y.1), y.2) := by
  unfold f270_18 at h
  refine rn_steps 2 20 [.ref l0, .int l1, .int l2, .int 0] [] rfl ?_
  exact e270_20 d 1100 _ _ _ _ _ _ h
/-- LastAskedModel.led(I)I -/
noncomputable def f270 (l0 : Nat) (l1 : Int32) (σ : xM) : Option (Int32 × xM) :=
  (pI σ l0 9 0 0).bind fun σ1 =>
  (gQ σ1 l0 9 3).bind fun q2 =>
  match q2 with
  | none =>
  f270_18 l0 l1 0 σ1
  | some b3 =>
  (cO σ1 l0 9).bind fun u5 =>
  (f188 l0 σ1).bind fun y4 =>
  f270_18 l0 l1 0 y4
set_option maxRecDepth 20000 in
set_option maxHeartbeats 1000000 in
theorem e270 (d : Nat) {l0 : Nat} {l1 : Int32} {σ : xM} {y : Int32 × xM} (h : f270 l0 l1 σ = some y) : Rn (d + 3) 270 0 [.ref l0, .int l1, .retAddr 0, .retAddr 0] [] σ (some (.int y.1), y.2) := by
  unfold f270 at h
  refine rn_steps 2 2 [.ref l0, .int l1, .retAddr 0, .retAddr 0] [.int 0, .ref l0] rfl ?_
  obtain ⟨σ1, hσ1, h⟩ := Option.bind_eq_some_iff.mp h
  refine rn_pI (c := 9) (f := 0) rfl rfl ⟨⟨rfl, rfl⟩, rfl⟩ hσ1 ?_
  refine rn_steps 3 8 [.ref l0, .int l1, .int 0, .retAddr 0] [.ref l0] rfl ?_
  obtain ⟨q2, hq2, h⟩ := Option.bind_eq_some_iff.mp h
  refine rn_gQ (c := 9) (f := 3) rfl rfl ⟨⟨rfl, rfl⟩, rfl⟩ hq2 ?_
  cases q2 with
  | none =>
    dsimp only at h
    refine rn_steps 1 18 [.ref l0, .int l1, .int 0, .retAddr 0] [] rfl ?_
    exact e270_18 d _ _ _ _ _ _ h
  | some b3 =>
    dsimp only at h
    refine rn_steps 2 15 [.ref l0, .int l1, .int 0, .retAddr 0] [.ref l0] rfl ?_
    obtain ⟨u5, hu5, h⟩ := Option.bind_eq_some_iff.mp h
    obtain ⟨y4, hy4, h⟩ := Option.bind_eq_some_iff.mp h
    refine rn_callV [] rfl rfl ⟨rfl, rfl⟩ hu5 rfl rfl (e188 (d + 2) hy4) ?_
    refine rn_steps 0 18 [.ref l0, .int l1, .int 0, .retAddr 0] [] rfl ?_
    exact e270_18 d _ _ _ _ _ _ h
/-- LastAskedModel.size(I)I -/
noncomputable def f271 (l0 : Nat) (l1 : Int32) (σ : xM) : Option (Int32 × xM) :=
  (pI σ l0 9 0 0).bind fun σ1 =>
  if l1 = 12 then
  (gI σ1 l0 9 6).bind fun v28 =>
  some (v28, σ1)
  else
  (f156 l1 0 11 σ1).bind fun y2 =>
  if y2.1 = 0 then
  some ((-1), y2.2)
  else
  (gQ y2.2 l0 9 3).bind fun q3 =>
  match q3 with
  | none =>
  some (0, y2.2)
  | some b4 =>
  if l1 = 0 then
  (gR y2.2 l0 9 16).bind fun r5 =>
  (aI y2.2 r5 44).bind fun v6 =>
  some (v6, y2.2)
  else
  if l1 = 1 then
  (gR y2.2 l0 9 3).bind fun r7 =>
  (gI y2.2 r7 8 1).bind fun v8 =>
  some (v8, y2.2)
  else
  if l1 = 2 then
  (gR y2.2 l0 9 3).bind fun r9 =>
  (gI y2.2 r9 8 2).bind fun v10 =>
  some (v10, y2.2)
  else
  if l1 = 3 then
  (gR y2.2 l0 9 3).bind fun r11 =>
  (gI y2.2 r11 8 3).bind fun v12 =>
  some (v12, y2.2)
  else
  if l1 = 4 then
  (gR y2.2 l0 9 3).bind fun r13 =>
  (gI y2.2 r13 8 4).bind fun v14 =>
  some (v14, y2.2)
  else
  if l1 = 5 then
  (gR y2.2 l0 9 3).bind fun r15 =>
  (gI y2.2 r15 8 5).bind fun v16 =>
  some (v16, y2.2)
  else
  if l1 = 6 then
  (gR y2.2 l0 9 3).bind fun r17 =>
  (gI y2.2 r17 8 6).bind fun v18 =>
  some (v18, y2.2)
  else
  if l1 = 7 then
  (gR y2.2 l0 9 16).bind fun r19 =>
  (aI y2.2 r19 42).bind fun v20 =>
  (f158 v20 y2.2).bind fun y21 =>
  some (y21.1, y21.2)
  else
  if l1 = 8 then
  (gR y2.2 l0 9 16).bind fun r22 =>
  (aI y2.2 r22 45).bind fun v23 =>
  some (v23, y2.2)
  else
  if l1 = 9 then
  (gR y2.2 l0 9 16).bind fun r24 =>
  (aI y2.2 r24 46).bind fun v25 =>
  some (v25, y2.2)
  else
  if l1 = 10 then
  (gI y2.2 l0 9 20).bind fun v26 =>
  some (v26, y2.2)
  else
  (gI y2.2 l0 9 21).bind fun v27 =>
  some (v27, y2.2)
set_option maxRecDepth 20000 in
set_option maxHeartbeats 1000000 in
theorem e271 (d : Nat) {l0 : Nat} {l1 : Int32} {σ : xM} {y : Int32 × xM} (h : f271 l0 l1 σ = some y) : Rn (d + 1) 271 0 [.ref l0, .int l1] [] σ (some (.int y.1), y.2) := by
  unfold f271 at h
  refine rn_steps 2 2 [.ref l0, .int l1] [.int 0, .ref l0] rfl ?_
  obtain ⟨σ1, hσ1, h⟩ := Option.bind_eq_some_iff.mp h
  refine rn_pI (c := 9) (f := 0) rfl rfl ⟨⟨rfl, rfl⟩, rfl⟩ hσ1 ?_
  refine rn_steps 2 8 [.ref l0, .int l1] [.int 12, .int l1] rfl ?_
  refine rn_br (c := ¬ l1 = 12) rfl rfl decide_eq_true_iff (fun hb => ?_) (fun hb => ?_)
  · rw [if_neg hb] at h
    refine rn_steps 3 20 [.ref l0, .int l1] [.int 11, .int 0, .int l1] rfl ?_
    obtain ⟨y2, hy2, h⟩ := Option.bind_eq_some_iff.mp h
    refine rn_callS [.int l1, .int 0, .int 11] rfl rfl rfl ⟨rfl, rfl, rfl⟩ rfl rfl (e156 d hy2) ?_
    refine rn_steps 0 23 [.ref l0, .int l1] [.int y2.1] rfl ?_
    refine rn_br (c := ¬ y2.1 = 0) rfl rfl decide_eq_true_iff (fun hb => ?_) (fun hb => ?_)
    · rw [if_neg hb] at h
      refine rn_steps 1 29 [.ref l0, .int l1] [.ref l0] rfl ?_
      obtain ⟨q3, hq3, h⟩ := Option.bind_eq_some_iff.mp h
      refine rn_gQ (c := 9) (f := 3) rfl rfl ⟨⟨rfl, rfl⟩, rfl⟩ hq3 ?_
      cases q3 with
      | none =>
        dsimp only at h
        refine rn_steps 2 36 [.ref l0, .int l1] [.int 0] rfl ?_
        cases h
        exact rn_ret rfl rfl rfl
      | some b4 =>
        dsimp only at h
        refine rn_steps 2 38 [.ref l0, .int l1] [.int l1] rfl ?_
        by_cases hb0 : l1 = 0
        · rw [if_pos hb0] at h
          rw [hb0]
          refine rn_steps 1 96 [.ref l0, .int 0] [] rfl ?_
          refine rn_steps 1 97 [.ref l0, .int 0] [.ref l0] rfl ?_
          obtain ⟨r5, hr5, h⟩ := Option.bind_eq_some_iff.mp h
          refine rn_gR (c := 9) (f := 16) rfl rfl ⟨⟨rfl, rfl⟩, rfl⟩ hr5 ?_
          refine rn_steps 1 102 [.ref l0, .int 0] [.int 44, .ref r5] rfl ?_
          obtain ⟨v6, hv6, h⟩ := Option.bind_eq_some_iff.mp h
          refine rn_aI rfl hv6 ?_
          refine rn_steps 0 103 [.ref l0, .int 0] [.int v6] rfl ?_
          cases h
          exact rn_ret rfl rfl rfl
        · rw [if_neg hb0] at h
          by_cases hb1 : l1 = 1
          · rw [if_pos hb1] at h
            rw [hb1]
            refine rn_steps 1 104 [.ref l0, .int 1] [] rfl ?_
            refine rn_steps 1 105 [.ref l0, .int 1] [.ref l0] rfl ?_
            obtain ⟨r7, hr7, h⟩ := Option.bind_eq_some_iff.mp h
            refine rn_gR (c := 9) (f := 3) rfl rfl ⟨⟨rfl, rfl⟩, rfl⟩ hr7 ?_
            refine rn_steps 0 108 [.ref l0, .int 1] [.ref r7] rfl ?_
            obtain ⟨v8, hv8, h⟩ := Option.bind_eq_some_iff.mp h
            refine rn_gI (c := 8) (f := 1) rfl rfl ⟨⟨rfl, rfl⟩, Or.inl rfl⟩ hv8 ?_
            refine rn_steps 0 111 [.ref l0, .int 1] [.int v8] rfl ?_
            cases h
            exact rn_ret rfl rfl rfl
          · rw [if_neg hb1] at h
            by_cases hb2 : l1 = 2
            · rw [if_pos hb2] at h
              rw [hb2]
              refine rn_steps 1 112 [.ref l0, .int 2] [] rfl ?_
              refine rn_steps 1 113 [.ref l0, .int 2] [.ref l0] rfl ?_
              obtain ⟨r9, hr9, h⟩ := Option.bind_eq_some_iff.mp h
              refine rn_gR (c := 9) (f := 3) rfl rfl ⟨⟨rfl, rfl⟩, rfl⟩ hr9 ?_
              refine rn_steps 0 116 [.ref l0, .int 2] [.ref r9] rfl ?_
              obtain ⟨v10, hv10, h⟩ := Option.bind_eq_some_iff.mp h
              refine rn_gI (c := 8) (f := 2) rfl rfl ⟨⟨rfl, rfl⟩, Or.inl rfl⟩ hv10 ?_
              refine rn_steps 0 119 [.ref l0, .int 2] [.int v10] rfl ?_
              cases h
              exact rn_ret rfl rfl rfl
            · rw [if_neg hb2] at h
              by_cases hb3 : l1 = 3
              · rw [if_pos hb3] at h
                rw [hb3]
                refine rn_steps 1 120 [.ref l0, .int 3] [] rfl ?_
                refine rn_steps 1 121 [.ref l0, .int 3] [.ref l0] rfl ?_
                obtain ⟨r11, hr11, h⟩ := Option.bind_eq_some_iff.mp h
                refine rn_gR (c := 9) (f := 3) rfl rfl ⟨⟨rfl, rfl⟩, rfl⟩ hr11 ?_
                refine rn_steps 0 124 [.ref l0, .int 3] [.ref r11] rfl ?_
                obtain ⟨v12, hv12, h⟩ := Option.bind_eq_some_iff.mp h
                refine rn_gI (c := 8) (f := 3) rfl rfl ⟨⟨rfl, rfl⟩, Or.inl rfl⟩ hv12 ?_
                refine rn_steps 0 127 [.ref l0, .int 3] [.int v12] rfl ?_
                cases h
                exact rn_ret rfl rfl rfl
              · rw [if_neg hb3] at h
                by_cases hb4 : l1 = 4
                · rw [if_pos hb4] at h
                  rw [hb4]
                  refine rn_steps 1 128 [.ref l0, .int 4] [] rfl ?_
                  refine rn_steps 1 129 [.ref l0, .int 4] [.ref l0] rfl ?_
                  obtain ⟨r13, hr13, h⟩ := Option.bind_eq_some_iff.mp h
                  refine rn_gR (c := 9) (f := 3) rfl rfl ⟨⟨rfl, rfl⟩, rfl⟩ hr13 ?_
                  refine rn_steps 0 132 [.ref l0, .int 4] [.ref r13] rfl ?_
                  obtain ⟨v14, hv14, h⟩ := Option.bind_eq_some_iff.mp h
                  refine rn_gI (c := 8) (f := 4) rfl rfl ⟨⟨rfl, rfl⟩, Or.inl rfl⟩ hv14 ?_
                  refine rn_steps 0 135 [.ref l0, .int 4] [.int v14] rfl ?_
                  cases h
                  exact rn_ret rfl rfl rfl
                · rw [if_neg hb4] at h
                  by_cases hb5 : l1 = 5
                  · rw [if_pos hb5] at h
                    rw [hb5]
                    refine rn_steps 1 136 [.ref l0, .int 5] [] rfl ?_
                    refine rn_steps 1 137 [.ref l0, .int 5] [.ref l0] rfl ?_
                    obtain ⟨r15, hr15, h⟩ := Option.bind_eq_some_iff.mp h
                    refine rn_gR (c := 9) (f := 3) rfl rfl ⟨⟨rfl, rfl⟩, rfl⟩ hr15 ?_
                    refine rn_steps 0 140 [.ref l0, .int 5] [.ref r15] rfl ?_
                    obtain ⟨v16, hv16, h⟩ := Option.bind_eq_some_iff.mp h
                    refine rn_gI (c := 8) (f := 5) rfl rfl ⟨⟨rfl, rfl⟩, Or.inl rfl⟩ hv16 ?_
                    refine rn_steps 0 143 [.ref l0, .int 5] [.int v16] rfl ?_
                    cases h
                    exact rn_ret rfl rfl rfl
                  · rw [if_neg hb5] at h
                    by_cases hb6 : l1 = 6
                    · rw [if_pos hb6] at h
                      rw [hb6]
                      refine rn_steps 1 144 [.ref l0, .int 6] [] rfl ?_
                      refine rn_steps 1 145 [.ref l0, .int 6] [.ref l0] rfl ?_
                      obtain ⟨r17, hr17, h⟩ := Option.bind_eq_some_iff.mp h
                      refine rn_gR (c := 9) (f := 3) rfl rfl ⟨⟨rfl, rfl⟩, rfl⟩ hr17 ?_
                      refine rn_steps 0 148 [.ref l0, .int 6] [.ref r17] rfl ?_
                      obtain ⟨v18, hv18, h⟩ := Option.bind_eq_some_iff.mp h
                      refine rn_gI (c := 8) (f := 6) rfl rfl ⟨⟨rfl, rfl⟩, Or.inl rfl⟩ hv18 ?_
                      refine rn_steps 0 151 [.ref l0, .int 6] [.int v18] rfl ?_
                      cases h
                      exact rn_ret rfl rfl rfl
                    · rw [if_neg hb6] at h
                      by_cases hb7 : l1 = 7
                      · rw [if_pos hb7] at h
                        rw [hb7]
                        refine rn_steps 1 152 [.ref l0, .int 7] [] rfl ?_
                        refine rn_steps 1 153 [.ref l0, .int 7] [.ref l0] rfl ?_
                        obtain ⟨r19, hr19, h⟩ := Option.bind_eq_some_iff.mp h
                        refine rn_gR (c := 9) (f := 16) rfl rfl ⟨⟨rfl, rfl⟩, rfl⟩ hr19 ?_
                        refine rn_steps 1 158 [.ref l0, .int 7] [.int 42, .ref r19] rfl ?_
                        obtain ⟨v20, hv20, h⟩ := Option.bind_eq_some_iff.mp h
                        refine rn_aI rfl hv20 ?_
                        refine rn_steps 0 159 [.ref l0, .int 7] [.int v20] rfl ?_
                        obtain ⟨y21, hy21, h⟩ := Option.bind_eq_some_iff.mp h
                        refine rn_callS [.int v20] rfl rfl rfl ⟨rfl, rfl, rfl⟩ rfl rfl (e158 d hy21) ?_
                        refine rn_steps 0 162 [.ref l0, .int 7] [.int y21.1] rfl ?_
                        cases h
                        exact rn_ret rfl rfl rfl
                      · rw [if_neg hb7] at h
                        by_cases hb8 : l1 = 8
                        · rw [if_pos hb8] at h
                          rw [hb8]
                          refine rn_steps 1 163 [.ref l0, .int 8] [] rfl ?_
                          refine rn_steps 1 164 [.ref l0, .int 8] [.ref l0] rfl ?_
                          obtain ⟨r22, hr22, h⟩ := Option.bind_eq_some_iff.mp h
                          refine rn_gR (c := 9) (f := 16) rfl rfl ⟨⟨rfl, rfl⟩, rfl⟩ hr22 ?_
                          refine rn_steps 1 169 [.ref l0, .int 8] [.int 45, .ref r22] rfl ?_
                          obtain ⟨v23, hv23, h⟩ := Option.bind_eq_some_iff.mp h
                          refine rn_aI rfl hv23 ?_
                          refine rn_steps 0 170 [.ref l0, .int 8] [.int v23] rfl ?_
                          cases h
                          exact rn_ret rfl rfl rfl
                        · rw [if_neg hb8] at h
                          by_cases hb9 : l1 = 9
                          · rw [if_pos hb9] at h
                            rw [hb9]
                            refine rn_steps 1 171 [.ref l0, .int 9] [] rfl ?_
                            refine rn_steps 1 172 [.ref l0, .int 9] [.ref l0] rfl ?_
                            obtain ⟨r24, hr24, h⟩ := Option.bind_eq_some_iff.mp h
                            refine rn_gR (c := 9) (f := 16) rfl rfl ⟨⟨rfl, rfl⟩, rfl⟩ hr24 ?_
                            refine rn_steps 1 177 [.ref l0, .int 9] [.int 46, .ref r24] rfl ?_
                            obtain ⟨v25, hv25, h⟩ := Option.bind_eq_some_iff.mp h
                            refine rn_aI rfl hv25 ?_
                            refine rn_steps 0 178 [.ref l0, .int 9] [.int v25] rfl ?_
                            cases h
                            exact rn_ret rfl rfl rfl
                          · rw [if_neg hb9] at h
                            by_cases hb10 : l1 = 10
                            · rw [if_pos hb10] at h
                              rw [hb10]
                              refine rn_steps 1 179 [.ref l0, .int 10] [] rfl ?_
                              refine rn_steps 1 180 [.ref l0, .int 10] [.ref l0] rfl ?_
                              obtain ⟨v26, hv26, h⟩ := Option.bind_eq_some_iff.mp h
                              refine rn_gI (c := 9) (f := 20) rfl rfl ⟨⟨rfl, rfl⟩, Or.inl rfl⟩ hv26 ?_
                              refine rn_steps 0 183 [.ref l0, .int 10] [.int v26] rfl ?_
                              cases h
                              exact rn_ret rfl rfl rfl
                            · rw [if_neg hb10] at h
                              have hx : l1.toInt < 0 ∨ (10 : Int) < l1.toInt := xout (x := l1) (N := 10) (fun j hj => by rcases (show j = 0 ∨ j = 1 ∨ j = 2 ∨ j = 3 ∨ j = 4 ∨ j = 5 ∨ j = 6 ∨ j = 7 ∨ j = 8 ∨ j = 9 ∨ j = 10 by omega) with rfl | rfl | rfl | rfl | rfl | rfl | rfl | rfl | rfl | rfl | rfl <;> first | exact hb0 | exact hb1 | exact hb2 | exact hb3 | exact hb4 | exact hb5 | exact hb6 | exact hb7 | exact hb8 | exact hb9 | exact hb10)
                              refine rn_tbl rfl rfl hx ?_
                              refine rn_steps 1 185 [.ref l0, .int l1] [.ref l0] rfl ?_
                              obtain ⟨v27, hv27, h⟩ := Option.bind_eq_some_iff.mp h
                              refine rn_gI (c := 9) (f := 21) rfl rfl ⟨⟨rfl, rfl⟩, Or.inl rfl⟩ hv27 ?_
                              refine rn_steps 0 188 [.ref l0, .int l1] [.int v27] rfl ?_
                              cases h
                              exact rn_ret rfl rfl rfl
    · rw [if_pos (Decidable.not_not.mp hb)] at h
      refine rn_steps 1 27 [.ref l0, .int l1] [.int (-1)] rfl ?_
      cases h
      exact rn_ret rfl rfl rfl
  · rw [if_pos (Decidable.not_not.mp hb)] at h
    refine rn_steps 1 12 [.ref l0, .int l1] [.ref l0] rfl ?_
    obtain ⟨v28, hv28, h⟩ := Option.bind_eq_some_iff.mp h
    refine rn_gI (c := 9) (f := 6) rfl rfl ⟨⟨rfl, rfl⟩, Or.inl rfl⟩ hv28 ?_
    refine rn_steps 0 15 [.ref l0, .int l1] [.int v28] rfl ?_
    cases h
    exact rn_ret rfl rfl rfl
/-- LastAskedModel.trouble()I -/
noncomputable def f272 (l0 : Nat) (σ : xM) : Option (Int32 × xM) :=
  (pI σ l0 9 0 0).bind fun σ1 =>
  (gI σ1 l0 9 1).bind fun v2 =>
  some (v2, σ1)
set_option maxRecDepth 20000 in
set_option maxHeartbeats 1000000 in
theorem e272 (d : Nat) {l0 : Nat} {σ : xM} {y : Int32 × xM} (h : f272 l0 σ = some y) : Rn (d + 0) 272 0 [.ref l0] [] σ (some (.int y.1), y.2) := by
  unfold f272 at h
  refine rn_steps 2 2 [.ref l0] [.int 0, .ref l0] rfl ?_
  obtain ⟨σ1, hσ1, h⟩ := Option.bind_eq_some_iff.mp h
  refine rn_pI (c := 9) (f := 0) rfl rfl ⟨⟨rfl, rfl⟩, rfl⟩ hσ1 ?_
  refine rn_steps 1 6 [.ref l0] [.ref l0] rfl ?_
  obtain ⟨v2, hv2, h⟩ := Option.bind_eq_some_iff.mp h
  refine rn_gI (c := 9) (f := 1) rfl rfl ⟨⟨rfl, rfl⟩, Or.inl rfl⟩ hv2 ?_
  refine rn_steps 0 9 [.ref l0] [.int v2] rfl ?_
  cases h
  exact rn_ret rfl rfl rfl
