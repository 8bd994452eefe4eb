noncomputable def f240_368 (l3 : Int32) (σ : xM) : Option (Int32 × xM) :=
  rZ l3 σ
set_option maxRecDepth 20000 in
set_option maxHeartbeats 1000000 in
theorem e240_368 (d : Nat) (l3 : Int32) (x0 x1 x2 x4 x5 x6 x7 : Value) (σ : xM) (y : Int32 × xM) (h : f240_368 l3 σ = some y) : Rn (d + 4) 240 368 [x0, x1, x2, .int l3, x4, x5, x6, x7] [] σ (some (.int y.1), y.2) := by
  unfold f240_368 at h
  refine rn_steps 1 369 [x0, x1, x2, .int l3, x4, x5, x6, x7] [.int l3] rfl ?_
  exact rn_retZ rfl rfl h
noncomputable def f240_362 (K93 : Nat → Int32 → Int32 → Int32 → Int32 → Int32 → xM → Option (Int32 × xM)) (l0 : Nat) (l1 : Int32) (l2 : Int32) (l3 : Int32) (l4 : Int32) (l5 : Int32) (σ : xM) : Option (Int32 × xM) :=
  K93 l0 l1 l2 l3 l4 (l5 + 1) σ
set_option maxRecDepth 20000 in
set_option maxHeartbeats 1000000 in
theorem e240_362 (d : Nat) (K93 : Nat → Int32 → Int32 → Int32 → Int32 → Int32 → xM → Option (Int32 × xM)) (hK93 : ∀ (l0 : Nat) (l1 : Int32) (l2 : Int32) (l3 : Int32) (l4 : Int32) (l5 : Int32) (x6 x7 : Value) (σ : xM) (y : Int32 × xM), K93 l0 l1 l2 l3 l4 l5 σ = some y → Rn (d + 4) 240 93 [.ref l0, .int l1, .int l2, .int l3, .int l4, .int l5, x6, x7] [] σ (some (.int y.1), y.2)) (l0 : Nat) (l1 : Int32) (l2 : Int32) (l3 : Int32) (l4 : Int32) (l5 : Int32) (x6 x7 : Value) (σ : xM) (y : Int32 × xM) (h : f240_362 K93 l0 l1 l2 l3 l4 l5 σ = some y) : Rn (d + 4) 240 362 [.ref l0, .int l1, .int l2, .int l3, .int l4, .int l5, x6, x7] [] σ (some (.int y.1), y.2) := by
  unfold f240_362 at h
  refine rn_steps 2 93 [.ref l0, .int l1, .int l2, .int l3, .int l4, .int (l5 + 1), x6, x7] [] rfl ?_
  exact hK93 _ _ _ _ _ _ _ _ _ _ h
noncomputable def f240_356 (K93 : Nat → Int32 → Int32 → Int32 → Int32 → Int32 → xM → Option (Int32 × xM)) (K312 : Nat → Int32 → Int32 → Int32 → Int32 → Int32 → Int32 → xM → Option (Int32 × xM)) (l0 : Nat) (l1 : Int32) (l2 : Int32) (l3 : Int32) (l4 : Int32) (l5 : Int32) (l7 : Int32) (σ : xM) : Option (Int32 × xM) :=
  K312 l0 l1 l2 l3 l4 l5 (l7 + 1) σ
set_option maxRecDepth 20000 in
set_option maxHeartbeats 1000000 in
theorem e240_356 (d : Nat) (K93 : Nat → Int32 → Int32 → Int32 → Int32 → Int32 → xM → Option (Int32 × xM)) (hK93 : ∀ (l0 : Nat) (l1 : Int32) (l2 : Int32) (l3 : Int32) (l4 : Int32) (l5 : Int32) (x6 x7 : Value) (σ : xM) (y : Int32 × xM), K93 l0 l1 l2 l3 l4 l5 σ = some y → Rn (d + 4) 240 93 [.ref l0, .int l1, .int l2, .int l3, .int l4, .int l5, x6, x7] [] σ (some (.int y.1), y.2)) (K312 : Nat → Int32 → Int32 → Int32 → Int32 → Int32 → Int32 → xM → Option (Int32 × xM)) (hK312 : ∀ (l0 : Nat) (l1 : Int32) (l2 : Int32) (l3 : Int32) (l4 : Int32) (l5 : Int32) (l7 : Int32) (x6 : Value) (σ : xM) (y : Int32 × xM), K312 l0 l1 l2 l3 l4 l5 l7 σ = some y → Rn (d + 4) 240 312 [.ref l0, .int l1, .int l2, .int l3, .int l4, .int l5, x6, .int l7] [] σ (some (.int y.1), y.2)) (l0 : Nat) (l1 : Int32) (l2 : Int32) (l3 : Int32) (l4 : Int32) (l5 : Int32) (l7 : Int32) (x6 : Value) (σ : xM) (y : Int32 × xM) (h : f240_356 K93 K312 l0 l1 l2 l3 l4 l5 l7 σ = some y) : Rn (d + 4) 240 356 [.ref l0, .int l1, .int l2, .int l3, .int l4, .int l5, x6, .int l7] [] σ (some (.int y.1), y.2) := by
  unfold f240_356 at h
  refine rn_steps 2 312 [.ref l0, .int l1, .int l2, .int l3, .int l4, .int l5, x6, .int (l7 + 1)] [] rfl ?_
  exact hK312 _ _ _ _ _ _ _ _ _ _ h
noncomputable def f240_312 (K93 : Nat → Int32 → Int32 → Int32 → Int32 → Int32 → xM → Option (Int32 × xM)) : Nat → Nat → Int32 → Int32 → Int32 → Int32 → Int32 → Int32 → xM → Option (Int32 × xM)
  | 0, _, _, _, _, _, _, _, _ => none
  | n + 1, l0, l1, l2, l3, l4, l5, l7, σ =>
    (gR σ l0 9 3).bind fun r1 =>
    (gI σ r1 8 2).bind fun v2 =>
    if v2 ≤ l7 then
    f240_362 K93 l0 l1 l2 l3 l4 l5 σ
    else
    (cO σ l0 9).bind fun u9 =>
    (f192 l0 l7 σ).bind fun y3 =>
    if y3.1 = (-2) then
    f240_356 K93 (f240_312 K93 n) l0 l1 l2 l3 l4 l5 l7 y3.2
    else
    (gR y3.2 l0 9 32).bind fun r4 =>
    (cO y3.2 l0 9).bind fun u8 =>
    (f192 l0 l7 y3.2).bind fun y5 =>
    (aI y5.2 r4 ((6 * y5.1) + l7)).bind fun v6 =>
    (tI y5.2 r4 ((6 * y5.1) + l7) (v6 + 1)).bind fun σ7 =>
    f240_356 K93 (f240_312 K93 n) l0 l1 l2 l3 l4 l5 l7 σ7
set_option maxRecDepth 20000 in
set_option maxHeartbeats 1000000 in
theorem e240_312 (d : Nat) (K93 : Nat → Int32 → Int32 → Int32 → Int32 → Int32 → xM → Option (Int32 × xM)) (hK93 : ∀ (l0 : Nat) (l1 : Int32) (l2 : Int32) (l3 : Int32) (l4 : Int32) (l5 : Int32) (x6 x7 : Value) (σ : xM) (y : Int32 × xM), K93 l0 l1 l2 l3 l4 l5 σ = some y → Rn (d + 4) 240 93 [.ref l0, .int l1, .int l2, .int l3, .int l4, .int l5, x6, x7] [] σ (some (.int y.1), y.2)) : ∀ (n : Nat) (l0 : Nat) (l1 : Int32) (l2 : Int32) (l3 : Int32) (l4 : Int32) (l5 : Int32) (l7 : Int32) (x6 : Value) (σ : xM) (y : Int32 × xM), f240_312 K93 n l0 l1 l2 l3 l4 l5 l7 σ = some y → Rn (d + 4) 240 312 [.ref l0, .int l1, .int l2, .int l3, .int l4, .int l5, x6, .int l7] [] σ (some (.int y.1), y.2) := by
  intro n
  induction n with
  | zero => intro l0 l1 l2 l3 l4 l5 l7 x6 σ y h; cases h
  | succ n ih =>
    intro l0 l1 l2 l3 l4 l5 l7 x6 σ y h
    unfold f240_312 at h
    refine rn_steps 2 315 [.ref l0, .int l1, .int l2, .int l3, .int l4, .int l5, x6, .int l7] [.ref l0, .int l7] rfl ?_
    obtain ⟨r1, hr1, h⟩ := Option.bind_eq_some_iff.mp h
    refine rn_gR (c := 9) (f := 3) rfl rfl ⟨⟨rfl, rfl⟩, rfl⟩ hr1 ?_
    refine rn_steps 0 318 [.ref l0, .int l1, .int l2, .int l3, .int l4, .int l5, x6, .int l7] [.ref r1, .int l7] rfl ?_
    obtain ⟨v2, hv2, h⟩ := Option.bind_eq_some_iff.mp h
    refine rn_gI (c := 8) (f := 2) rfl rfl ⟨⟨rfl, rfl⟩, Or.inl rfl⟩ hv2 ?_
    refine rn_steps 0 321 [.ref l0, .int l1, .int l2, .int l3, .int l4, .int l5, x6, .int l7] [.int v2, .int l7] rfl ?_
    refine rn_br (c := v2 ≤ l7) rfl rfl decide_eq_true_iff (fun hb => ?_) (fun hb => ?_)
    · rw [if_pos hb] at h
      refine rn_steps 0 362 [.ref l0, .int l1, .int l2, .int l3, .int l4, .int l5, x6, .int l7] [] rfl ?_
      exact e240_362 d _ hK93 _ _ _ _ _ _ _ _ _ _ h
    · rw [if_neg hb] at h
      refine rn_steps 2 327 [.ref l0, .int l1, .int l2, .int l3, .int l4, .int l5, x6, .int l7] [.int l7, .ref l0] rfl ?_
      obtain ⟨u9, hu9, h⟩ := Option.bind_eq_some_iff.mp h
      obtain ⟨y3, hy3, h⟩ := Option.bind_eq_some_iff.mp h
      refine rn_callV [.int l7] rfl rfl ⟨rfl, rfl⟩ hu9 rfl rfl (e192 (d + 1) hy3) ?_
      refine rn_steps 1 332 [.ref l0, .int l1, .int l2, .int l3, .int l4, .int l5, x6, .int l7] [.int (-2), .int y3.1] rfl ?_
      refine rn_br (c := y3.1 = (-2)) rfl rfl decide_eq_true_iff (fun hb => ?_) (fun hb => ?_)
      · rw [if_pos hb] at h
        refine rn_steps 0 356 [.ref l0, .int l1, .int l2, .int l3, .int l4, .int l5, x6, .int l7] [] rfl ?_
        exact e240_356 d _ hK93 _ ih _ _ _ _ _ _ _ _ _ _ h
      · rw [if_neg hb] at h
        refine rn_steps 1 336 [.ref l0, .int l1, .int l2, .int l3, .int l4, .int l5, x6, .int l7] [.ref l0] rfl ?_
        obtain ⟨r4, hr4, h⟩ := Option.bind_eq_some_iff.mp h
        refine rn_gR (c := 9) (f := 32) rfl rfl ⟨⟨rfl, rfl⟩, rfl⟩ hr4 ?_
        refine rn_steps 3 344 [.ref l0, .int l1, .int l2, .int l3, .int l4, .int l5, x6, .int l7] [.int l7, .ref l0, .int 6, .ref r4] rfl ?_
        obtain ⟨u8, hu8, h⟩ := Option.bind_eq_some_iff.mp h
        obtain ⟨y5, hy5, h⟩ := Option.bind_eq_some_iff.mp h
        refine rn_callV [.int l7] rfl rfl ⟨rfl, rfl⟩ hu8 rfl rfl (e192 (d + 1) hy5) ?_
        refine rn_steps 4 352 [.ref l0, .int l1, .int l2, .int l3, .int l4, .int l5, x6, .int l7] [.int ((6 * y5.1) + l7), .ref r4, .int ((6 * y5.1) + l7), .ref r4] rfl ?_
        obtain ⟨v6, hv6, h⟩ := Option.bind_eq_some_iff.mp h
        refine rn_aI rfl hv6 ?_
        refine rn_steps 2 355 [.ref l0, .int l1, .int l2, .int l3, .int l4, .int l5, x6, .int l7] [.int (v6 + 1), .int ((6 * y5.1) + l7), .ref r4] rfl ?_
        obtain ⟨σ7, hσ7, h⟩ := Option.bind_eq_some_iff.mp h
        refine rn_tI rfl hσ7 ?_
        refine rn_steps 0 356 [.ref l0, .int l1, .int l2, .int l3, .int l4, .int l5, x6, .int l7] [] rfl ?_
        exact e240_356 d _ hK93 _ ih _ _ _ _ _ _ _ _ _ _ h
noncomputable def f240_309 (K93 : Nat → Int32 → Int32 → Int32 → Int32 → Int32 → xM → Option (Int32 × xM)) (l0 : Nat) (l1 : Int32) (l2 : Int32) (l3 : Int32) (l4 : Int32) (l5 : Int32) (σ : xM) : Option (Int32 × xM) :=
  f240_312 K93 1100 l0 l1 l2 l3 l4 l5 0 σ
set_option maxRecDepth 20000 in
set_option maxHeartbeats 1000000 in
theorem e240_309 (d : Nat) (K93 : Nat → Int32 → Int32 → Int32 → Int32 → Int32 → xM → Option (Int32 × xM)) (hK93 : ∀ (l0 : Nat) (l1 : Int32) (l2 : Int32) (l3 : Int32) (l4 : Int32) (l5 : Int32) (x6 x7 : Value) (σ : xM) (y : Int32 × xM), K93 l0 l1 l2 l3 l4 l5 σ = some y → Rn (d + 4) 240 93 [.ref l0, .int l1, .int l2, .int l3, .int l4, .int l5, x6, x7] [] σ (some (.int y.1), y.2)) (l0 : Nat) (l1 : Int32) (l2 : Int32) (l3 : Int32) (l4 : Int32) (l5 : Int32) (x6 x7 : Value) (σ : xM) (y : Int32 × xM) (h : f240_309 K93 l0 l1 l2 l3 l4 l5 σ = some y) : Rn (d + 4) 240 309 [.ref l0, .int l1, .int l2, .int l3, .int l4, .int l5, x6, x7] [] σ (some (.int y.1), y.2) := by
  unfold f240_309 at h
  refine rn_steps 2 312 [.ref l0, .int l1, .int l2, .int l3, .int l4, .int l5, x6, .int 0] [] rfl ?_
  exact e240_312 d _ hK93 1100 _ _ _ _ _ _ _ _ _ _ h
noncomputable def f240_269 (K93 : Nat → Int32 → Int32 → Int32 → Int32 → Int32 → xM → Option (Int32 × xM)) : Nat → Nat → Int32 → Int32 → Int32 → Int32 → Int32 → Int32 → xM → Option (Int32 × xM)
  | 0, _, _, _, _, _, _, _, _ => none
  | n + 1, l0, l1, l2, l3, l4, l5, l7, σ =>
    (gR σ l0 9 3).bind fun r1 =>
    (gI σ r1 8 5).bind fun v2 =>
    if v2 ≤ l7 then
    f240_309 K93 l0 l1 l2 l3 l4 l5 σ
    else
    (gR σ l0 9 31).bind fun r3 =>
    (gR σ l0 9 30).bind fun r4 =>
    (aI σ r4 l7).bind fun v5 =>
    (aI σ r3 ((7 * l7) + v5)).bind fun v6 =>
    (tI σ r3 ((7 * l7) + v5) (v6 + 1)).bind fun σ7 =>
    (f240_269 K93 n) l0 l1 l2 l3 l4 l5 (l7 + 1) σ7
set_option maxRecDepth 20000 in
set_option maxHeartbeats 1000000 in
theorem e240_269 (d : Nat) (K93 : Nat → Int32 → Int32 → Int32 → Int32 → Int32 → xM → Option (Int32 × xM)) (hK93 : ∀ (l0 : Nat) (l1 : Int32) (l2 : Int32) (l3 : Int32) (l4 : Int32) (l5 : Int32) (x6 x7 : Value) (σ : xM) (y : Int32 × xM), K93 l0 l1 l2 l3 l4 l5 σ = some y → Rn (d + 4) 240 93 [.ref l0, .int l1, .int l2, .int l3, .int l4, .int l5, x6, x7] [] σ (some (.int y.1), y.2)) : ∀ (n : Nat) (l0 : Nat) (l1 : Int32) (l2 : Int32) (l3 : Int32) (l4 : Int32) (l5 : Int32) (l7 : Int32) (x6 : Value) (σ : xM) (y : Int32 × xM), f240_269 K93 n l0 l1 l2 l3 l4 l5 l7 σ = some y → Rn (d + 4) 240 269 [.ref l0, .int l1, .int l2, .int l3, .int l4, .int l5, x6, .int l7] [] σ (some (.int y.1), y.2) := by
  intro n
  induction n with
  | zero => intro l0 l1 l2 l3 l4 l5 l7 x6 σ y h; cases h
  | succ n ih =>
    intro l0 l1 l2 l3 l4 l5 l7 x6 σ y h
    unfold f240_269 at h
    refine rn_steps 2 272 [.ref l0, .int l1, .int l2, .int l3, .int l4, .int l5, x6, .int l7] [.ref l0, .int l7] rfl ?_
    obtain ⟨r1, hr1, h⟩ := Option.bind_eq_some_iff.mp h
    refine rn_gR (c := 9) (f := 3) rfl rfl ⟨⟨rfl, rfl⟩, rfl⟩ hr1 ?_
    refine rn_steps 0 275 [.ref l0, .int l1, .int l2, .int l3, .int l4, .int l5, x6, .int l7] [.ref r1, .int l7] rfl ?_
    obtain ⟨v2, hv2, h⟩ := Option.bind_eq_some_iff.mp h
    refine rn_gI (c := 8) (f := 5) rfl rfl ⟨⟨rfl, rfl⟩, Or.inl rfl⟩ hv2 ?_
    refine rn_steps 0 278 [.ref l0, .int l1, .int l2, .int l3, .int l4, .int l5, x6, .int l7] [.int v2, .int l7] rfl ?_
    refine rn_br (c := v2 ≤ l7) rfl rfl decide_eq_true_iff (fun hb => ?_) (fun hb => ?_)
    · rw [if_pos hb] at h
      refine rn_steps 0 309 [.ref l0, .int l1, .int l2, .int l3, .int l4, .int l5, x6, .int l7] [] rfl ?_
      exact e240_309 d _ hK93 _ _ _ _ _ _ _ _ _ _ h
    · rw [if_neg hb] at h
      refine rn_steps 1 282 [.ref l0, .int l1, .int l2, .int l3, .int l4, .int l5, x6, .int l7] [.ref l0] rfl ?_
      obtain ⟨r3, hr3, h⟩ := Option.bind_eq_some_iff.mp h
      refine rn_gR (c := 9) (f := 31) rfl rfl ⟨⟨rfl, rfl⟩, rfl⟩ hr3 ?_
      refine rn_steps 4 291 [.ref l0, .int l1, .int l2, .int l3, .int l4, .int l5, x6, .int l7] [.ref l0, .int (7 * l7), .ref r3] rfl ?_
      obtain ⟨r4, hr4, h⟩ := Option.bind_eq_some_iff.mp h
      refine rn_gR (c := 9) (f := 30) rfl rfl ⟨⟨rfl, rfl⟩, rfl⟩ hr4 ?_
      refine rn_steps 1 296 [.ref l0, .int l1, .int l2, .int l3, .int l4, .int l5, x6, .int l7] [.int l7, .ref r4, .int (7 * l7), .ref r3] rfl ?_
      obtain ⟨v5, hv5, h⟩ := Option.bind_eq_some_iff.mp h
      refine rn_aI rfl hv5 ?_
      refine rn_steps 2 299 [.ref l0, .int l1, .int l2, .int l3, .int l4, .int l5, x6, .int l7] [.int ((7 * l7) + v5), .ref r3, .int ((7 * l7) + v5), .ref r3] rfl ?_
      obtain ⟨v6, hv6, h⟩ := Option.bind_eq_some_iff.mp h
      refine rn_aI rfl hv6 ?_
      refine rn_steps 2 302 [.ref l0, .int l1, .int l2, .int l3, .int l4, .int l5, x6, .int l7] [.int (v6 + 1), .int ((7 * l7) + v5), .ref r3] rfl ?_
      obtain ⟨σ7, hσ7, h⟩ := Option.bind_eq_some_iff.mp h
      refine rn_tI rfl hσ7 ?_
      refine rn_steps 2 269 [.ref l0, .int l1, .int l2, .int l3, .int l4, .int l5, x6, .int (l7 + 1)] [] rfl ?_
      exact ih _ _ _ _ _ _ _ _ _ _ h
noncomputable def f240_256 (K93 : Nat → Int32 → Int32 → Int32 → Int32 → Int32 → xM → Option (Int32 × xM)) (l0 : Nat) (l1 : Int32) (l2 : Int32) (l3 : Int32) (l4 : Int32) (l5 : Int32) (σ : xM) : Option (Int32 × xM) :=
  (gI σ l0 9 33).bind fun v1 =>
  (pI σ l0 9 33 (v1 + 1)).bind fun σ2 =>
  f240_269 K93 1100 l0 l1 l2 l3 l4 l5 0 σ2
set_option maxRecDepth 20000 in
set_option maxHeartbeats 1000000 in
theorem e240_256 (d : Nat) (K93 : Nat → Int32 → Int32 → Int32 → Int32 → Int32 → xM → Option (Int32 × xM)) (hK93 : ∀ (l0 : Nat) (l1 : Int32) (l2 : Int32) (l3 : Int32) (l4 : Int32) (l5 : Int32) (x6 x7 : Value) (σ : xM) (y : Int32 × xM), K93 l0 l1 l2 l3 l4 l5 σ = some y → Rn (d + 4) 240 93 [.ref l0, .int l1, .int l2, .int l3, .int l4, .int l5, x6, x7] [] σ (some (.int y.1), y.2)) (l0 : Nat) (l1 : Int32) (l2 : Int32) (l3 : Int32) (l4 : Int32) (l5 : Int32) (x6 x7 : Value) (σ : xM) (y : Int32 × xM) (h : f240_256 K93 l0 l1 l2 l3 l4 l5 σ = some y) : Rn (d + 4) 240 256 [.ref l0, .int l1, .int l2, .int l3, .int l4, .int l5, x6, x7] [] σ (some (.int y.1), y.2) := by
  unfold f240_256 at h
  refine rn_steps 2 258 [.ref l0, .int l1, .int l2, .int l3, .int l4, .int l5, x6, x7] [.ref l0, .ref l0] rfl ?_
  obtain ⟨v1, hv1, h⟩ := Option.bind_eq_some_iff.mp h
  refine rn_gI (c := 9) (f := 33) rfl rfl ⟨⟨rfl, rfl⟩, Or.inl rfl⟩ hv1 ?_
  refine rn_steps 2 263 [.ref l0, .int l1, .int l2, .int l3, .int l4, .int l5, x6, x7] [.int (v1 + 1), .ref l0] rfl ?_
  obtain ⟨σ2, hσ2, h⟩ := Option.bind_eq_some_iff.mp h
  refine rn_pI (c := 9) (f := 33) rfl rfl ⟨⟨rfl, rfl⟩, rfl⟩ hσ2 ?_
  refine rn_steps 2 269 [.ref l0, .int l1, .int l2, .int l3, .int l4, .int l5, x6, .int 0] [] rfl ?_
  exact e240_269 d _ hK93 1100 _ _ _ _ _ _ _ _ _ _ h
noncomputable def f240_253 (K93 : Nat → Int32 → Int32 → Int32 → Int32 → Int32 → xM → Option (Int32 × xM)) (l0 : Nat) (l1 : Int32) (l2 : Int32) (l3 : Int32) (l4 : Int32) (l5 : Int32) (s0 : Int32) (s1 : Nat) (σ : xM) : Option (Int32 × xM) :=
  (pI σ s1 9 34 s0).bind fun σ1 =>
  f240_256 K93 l0 l1 l2 l3 l4 l5 σ1
set_option maxRecDepth 20000 in
set_option maxHeartbeats 1000000 in
theorem e240_253 (d : Nat) (K93 : Nat → Int32 → Int32 → Int32 → Int32 → Int32 → xM → Option (Int32 × xM)) (hK93 : ∀ (l0 : Nat) (l1 : Int32) (l2 : Int32) (l3 : Int32) (l4 : Int32) (l5 : Int32) (x6 x7 : Value) (σ : xM) (y : Int32 × xM), K93 l0 l1 l2 l3 l4 l5 σ = some y → Rn (d + 4) 240 93 [.ref l0, .int l1, .int l2, .int l3, .int l4, .int l5, x6, x7] [] σ (some (.int y.1), y.2)) (l0 : Nat) (l1 : Int32) (l2 : Int32) (l3 : Int32) (l4 : Int32) (l5 : Int32) (s0 : Int32) (s1 : Nat) (x6 x7 : Value) (σ : xM) (y : Int32 × xM) (h : f240_253 K93 l0 l1 l2 l3 l4 l5 s0 s1 σ = some y) : Rn (d + 4) 240 253 [.ref l0, .int l1, .int l2, .int l3, .int l4, .int l5, x6, x7] [.int s0, .ref s1] σ (some (.int y.1), y.2) := by
  unfold f240_253 at h
  obtain ⟨σ1, hσ1, h⟩ := Option.bind_eq_some_iff.mp h
  refine rn_pI (c := 9) (f := 34) rfl rfl ⟨⟨rfl, rfl⟩, rfl⟩ hσ1 ?_
  refine rn_steps 0 256 [.ref l0, .int l1, .int l2, .int l3, .int l4, .int l5, x6, x7] [] rfl ?_
  exact e240_256 d _ hK93 _ _ _ _ _ _ _ _ _ _ h
noncomputable def f240_203 (K93 : Nat → Int32 → Int32 → Int32 → Int32 → Int32 → xM → Option (Int32 × xM)) (l0 : Nat) (l1 : Int32) (l2 : Int32) (l3 : Int32) (l4 : Int32) (l5 : Int32) (σ : xM) : Option (Int32 × xM) :=
  (cO σ l0 9).bind fun u9 =>
  (f239 l0 σ).bind fun y1 =>
  if y1.1 = (-2) then
  (gI y1.2 l0 9 33).bind fun v2 =>
  if v2 = l1 then
  (gR y1.2 l0 9 3).bind fun r3 =>
  (gI y1.2 r3 8 5).bind fun v4 =>
  if v4 ≤ l2 then
  f240_253 K93 l0 l1 l2 1 l4 l5 0 l0 y1.2
  else
  (cO y1.2 l0 9).bind fun u8 =>
  (f237 l0 l2 y1.2).bind fun y5 =>
  (gR y5.2 l0 9 30).bind fun r6 =>
  (aI y5.2 r6 l2).bind fun v7 =>
  f240_253 K93 l0 l1 l2 1 l4 l5 (y5.1 + v7) l0 y5.2
  else
  f240_256 K93 l0 l1 l2 l3 l4 l5 y1.2
  else
  f240_362 K93 l0 l1 l2 l3 l4 l5 y1.2
set_option maxRecDepth 20000 in
set_option maxHeartbeats 1000000 in
theorem e240_203 (d : Nat) (K93 : Nat → Int32 → Int32 → Int32 → Int32 → Int32 → xM → Option (Int32 × xM)) (hK93 : ∀ (l0 : Nat) (l1 : Int32) (l2 : Int32) (l3 : Int32) (l4 : Int32) (l5 : Int32) (x6 x7 : Value) (σ : xM) (y : Int32 × xM), K93 l0 l1 l2 l3 l4 l5 σ = some y → Rn (d + 4) 240 93 [.ref l0, .int l1, .int l2, .int l3, .int l4, .int l5, x6, x7] [] σ (some (.int y.1), y.2)) (l0 : Nat) (l1 : Int32) (l2 : Int32) (l3 : Int32) (l4 : Int32) (l5 : Int32) (x6 x7 : Value) (σ : xM) (y : Int32 × xM) (h : f240_203 K93 l0 l1 l2 l3 l4 l5 σ = some y) : Rn (d + 4) 240 203 [.ref l0, .int l1, .int l2, .int l3, .int l4, .int l5, x6, x7] [] σ (some (.int y.1), y.2) := by
  unfold f240_203 at h
  refine rn_steps 1 204 [.ref l0, .int l1, .int l2, .int l3, .int l4, .int l5, x6, x7] [.ref l0] rfl ?_
  obtain ⟨u9, hu9, h⟩ := Option.bind_eq_some_iff.mp h
  obtain ⟨y1, hy1, h⟩ := Option.bind_eq_some_iff.mp h
  refine rn_callV [] rfl rfl ⟨rfl, rfl⟩ hu9 rfl rfl (e239 d hy1) ?_
  refine rn_steps 1 209 [.ref l0, .int l1, .int l2, .int l3, .int l4, .int l5, x6, x7] [.int (-2), .int y1.1] rfl ?_
  refine rn_br (c := y1.1 = (-2)) rfl rfl decide_eq_true_iff (fun hb => ?_) (fun hb => ?_)
  · rw [if_pos hb] at h
    refine rn_steps 1 216 [.ref l0, .int l1, .int l2, .int l3, .int l4, .int l5, x6, x7] [.ref l0] rfl ?_
    obtain ⟨v2, hv2, h⟩ := Option.bind_eq_some_iff.mp h
    refine rn_gI (c := 9) (f := 33) rfl rfl ⟨⟨rfl, rfl⟩, Or.inl rfl⟩ hv2 ?_
    refine rn_steps 1 220 [.ref l0, .int l1, .int l2, .int l3, .int l4, .int l5, x6, x7] [.int l1, .int v2] rfl ?_
    refine rn_br (c := ¬ v2 = l1) rfl rfl decide_eq_true_iff (fun hb => ?_) (fun hb => ?_)
    · rw [if_neg hb] at h
      refine rn_steps 0 256 [.ref l0, .int l1, .int l2, .int l3, .int l4, .int l5, x6, x7] [] rfl ?_
      exact e240_256 d _ hK93 _ _ _ _ _ _ _ _ _ _ h
    · rw [if_pos (Decidable.not_not.mp hb)] at h
      refine rn_steps 5 228 [.ref l0, .int l1, .int l2, .int 1, .int l4, .int l5, x6, x7] [.ref l0, .int l2, .ref l0] rfl ?_
      obtain ⟨r3, hr3, h⟩ := Option.bind_eq_some_iff.mp h
      refine rn_gR (c := 9) (f := 3) rfl rfl ⟨⟨rfl, rfl⟩, rfl⟩ hr3 ?_
      refine rn_steps 0 231 [.ref l0, .int l1, .int l2, .int 1, .int l4, .int l5, x6, x7] [.ref r3, .int l2, .ref l0] rfl ?_
      obtain ⟨v4, hv4, h⟩ := Option.bind_eq_some_iff.mp h
      refine rn_gI (c := 8) (f := 5) rfl rfl ⟨⟨rfl, rfl⟩, Or.inl rfl⟩ hv4 ?_
      refine rn_steps 0 234 [.ref l0, .int l1, .int l2, .int 1, .int l4, .int l5, x6, x7] [.int v4, .int l2, .ref l0] rfl ?_
      refine rn_br (c := v4 ≤ l2) rfl rfl decide_eq_true_iff (fun hb => ?_) (fun hb => ?_)
      · rw [if_pos hb] at h
        refine rn_steps 1 253 [.ref l0, .int l1, .int l2, .int 1, .int l4, .int l5, x6, x7] [.int 0, .ref l0] rfl ?_
        exact e240_253 d _ hK93 _ _ _ _ _ _ _ _ _ _ _ _ h
      · rw [if_neg hb] at h
        refine rn_steps 2 239 [.ref l0, .int l1, .int l2, .int 1, .int l4, .int l5, x6, x7] [.int l2, .ref l0, .ref l0] rfl ?_
        obtain ⟨u8, hu8, h⟩ := Option.bind_eq_some_iff.mp h
        obtain ⟨y5, hy5, h⟩ := Option.bind_eq_some_iff.mp h
        refine rn_callV [.int l2] rfl rfl ⟨rfl, rfl⟩ hu8 rfl rfl (e237 (d + 3) hy5) ?_
        refine rn_steps 1 243 [.ref l0, .int l1, .int l2, .int 1, .int l4, .int l5, x6, x7] [.ref l0, .int y5.1, .ref l0] rfl ?_
        obtain ⟨r6, hr6, h⟩ := Option.bind_eq_some_iff.mp h
        refine rn_gR (c := 9) (f := 30) rfl rfl ⟨⟨rfl, rfl⟩, rfl⟩ hr6 ?_
        refine rn_steps 1 247 [.ref l0, .int l1, .int l2, .int 1, .int l4, .int l5, x6, x7] [.int l2, .ref r6, .int y5.1, .ref l0] rfl ?_
        obtain ⟨v7, hv7, h⟩ := Option.bind_eq_some_iff.mp h
        refine rn_aI rfl hv7 ?_
        refine rn_steps 2 253 [.ref l0, .int l1, .int l2, .int 1, .int l4, .int l5, x6, x7] [.int (y5.1 + v7), .ref l0] rfl ?_
        exact e240_253 d _ hK93 _ _ _ _ _ _ _ _ _ _ _ _ h
  · rw [if_neg hb] at h
    refine rn_steps 1 362 [.ref l0, .int l1, .int l2, .int l3, .int l4, .int l5, x6, x7] [] rfl ?_
    exact e240_362 d _ hK93 _ _ _ _ _ _ _ _ _ _ h
noncomputable def f240_119 (K93 : Nat → Int32 → Int32 → Int32 → Int32 → Int32 → xM → Option (Int32 × xM)) : Nat → Nat → Int32 → Int32 → Int32 → Int32 → Int32 → Int32 → Int32 → xM → Option (Int32 × xM)
  | 0, _, _, _, _, _, _, _, _, _ => none
  | n + 1, l0, l1, l2, l3, l4, l5, l6, l7, σ =>
    if l7 < 0 then
    f240_203 K93 l0 l1 l2 l3 l4 l5 σ
    else
    (gR σ l0 9 30).bind fun r1 =>
    (cO σ l0 9).bind fun u20 =>
    (f238 l0 l7 σ).bind fun y2 =>
    (rI l6 y2.1).bind fun v3 =>
    (tI y2.2 r1 l7 v3).bind fun σ4 =>
    (cO σ4 l0 9).bind fun u19 =>
    (f238 l0 l7 σ4).bind fun y5 =>
    (dI l6 y5.1).bind fun v6 =>
    (gR y5.2 l0 9 17).bind fun r7 =>
    (gR y5.2 l0 9 3).bind fun r8 =>
    (gR y5.2 r8 8 13).bind fun r9 =>
    (aI y5.2 r9 l7).bind fun v10 =>
    (gR y5.2 l0 9 3).bind fun r11 =>
    (gR y5.2 r11 8 14).bind fun r12 =>
    (aI y5.2 r12 l7).bind fun v13 =>
    (cO y5.2 l0 9).bind fun u18 =>
    (f237 l0 l7 y5.2).bind fun y14 =>
    (gR y14.2 l0 9 30).bind fun r15 =>
    (aI y14.2 r15 l7).bind fun v16 =>
    (tI y14.2 r7 ((6 + (6 * v10)) + v13) (y14.1 + v16)).bind fun σ17 =>
    (f240_119 K93 n) l0 l1 l2 l3 l4 l5 v6 (l7 + (-1)) σ17
set_option maxRecDepth 20000 in
set_option maxHeartbeats 1000000 in
theorem e240_119 (d : Nat) (K93 : Nat → Int32 → Int32 → Int32 → Int32 → Int32 → xM → Option (Int32 × xM)) (hK93 : ∀ (l0 : Nat) (l1 : Int32) (l2 : Int32) (l3 : Int32) (l4 : Int32) (l5 : Int32) (x6 x7 : Value) (σ : xM) (y : Int32 × xM), K93 l0 l1 l2 l3 l4 l5 σ = some y → Rn (d + 4) 240 93 [.ref l0, .int l1, .int l2, .int l3, .int l4, .int l5, x6, x7] [] σ (some (.int y.1), y.2)) : ∀ (n : Nat) (l0 : Nat) (l1 : Int32) (l2 : Int32) (l3 : Int32) (l4 : Int32) (l5 : Int32) (l6 : Int32) (l7 : Int32) (σ : xM) (y : Int32 × xM), f240_119 K93 n l0 l1 l2 l3 l4 l5 l6 l7 σ = some y → Rn (d + 4) 240 119 [.ref l0, .int l1, .int l2, .int l3, .int l4, .int l5, .int l6, .int l7] [] σ (some (.int y.1), y.2) := by
  intro n
  induction n with
  | zero => intro l0 l1 l2 l3 l4 l5 l6 l7 σ y h; cases h
  | succ n ih =>
    intro l0 l1 l2 l3 l4 l5 l6 l7 σ y h
    unfold f240_119 at h
    refine rn_steps 1 121 [.ref l0, .int l1, .int l2, .int l3, .int l4, .int l5, .int l6, .int l7] [.int l7] rfl ?_
    refine rn_br (c := l7 < 0) rfl rfl decide_eq_true_iff (fun hb => ?_) (fun hb => ?_)
    · rw [if_pos hb] at h
      refine rn_steps 0 203 [.ref l0, .int l1, .int l2, .int l3, .int l4, .int l5, .int l6, .int l7] [] rfl ?_
      exact e240_203 d _ hK93 _ _ _ _ _ _ _ _ _ _ h
    · rw [if_neg hb] at h
      refine rn_steps 1 125 [.ref l0, .int l1, .int l2, .int l3, .int l4, .int l5, .int l6, .int l7] [.ref l0] rfl ?_
      obtain ⟨r1, hr1, h⟩ := Option.bind_eq_some_iff.mp h
      refine rn_gR (c := 9) (f := 30) rfl rfl ⟨⟨rfl, rfl⟩, rfl⟩ hr1 ?_
      refine rn_steps 4 135 [.ref l0, .int l1, .int l2, .int l3, .int l4, .int l5, .int l6, .int l7] [.int l7, .ref l0, .int l6, .int l7, .ref r1] rfl ?_
      obtain ⟨u20, hu20, h⟩ := Option.bind_eq_some_iff.mp h
      obtain ⟨y2, hy2, h⟩ := Option.bind_eq_some_iff.mp h
      refine rn_callV [.int l7] rfl rfl ⟨rfl, rfl⟩ hu20 rfl rfl (e238 (d + 2) hy2) ?_
      refine rn_steps 0 138 [.ref l0, .int l1, .int l2, .int l3, .int l4, .int l5, .int l6, .int l7] [.int y2.1, .int l6, .int l7, .ref r1] rfl ?_
      obtain ⟨v3, hv3, h⟩ := Option.bind_eq_some_iff.mp h
      refine rn_rI rfl hv3 ?_
      refine rn_steps 0 139 [.ref l0, .int l1, .int l2, .int l3, .int l4, .int l5, .int l6, .int l7] [.int v3, .int l7, .ref r1] rfl ?_
      obtain ⟨σ4, hσ4, h⟩ := Option.bind_eq_some_iff.mp h
      refine rn_tI rfl hσ4 ?_
      refine rn_steps 3 145 [.ref l0, .int l1, .int l2, .int l3, .int l4, .int l5, .int l6, .int l7] [.int l7, .ref l0, .int l6] rfl ?_
      obtain ⟨u19, hu19, h⟩ := Option.bind_eq_some_iff.mp h
      obtain ⟨y5, hy5, h⟩ := Option.bind_eq_some_iff.mp h
      refine rn_callV [.int l7] rfl rfl ⟨rfl, rfl⟩ hu19 rfl rfl (e238 (d + 2) hy5) ?_
      refine rn_steps 0 148 [.ref l0, .int l1, .int l2, .int l3, .int l4, .int l5, .int l6, .int l7] [.int y5.1, .int l6] rfl ?_
      obtain ⟨v6, hv6, h⟩ := Option.bind_eq_some_iff.mp h
      refine rn_dI rfl hv6 ?_
      refine rn_steps 2 152 [.ref l0, .int l1, .int l2, .int l3, .int l4, .int l5, .int v6, .int l7] [.ref l0] rfl ?_
      obtain ⟨r7, hr7, h⟩ := Option.bind_eq_some_iff.mp h
      refine rn_gR (c := 9) (f := 17) rfl rfl ⟨⟨rfl, rfl⟩, rfl⟩ hr7 ?_
      refine rn_steps 3 160 [.ref l0, .int l1, .int l2, .int l3, .int l4, .int l5, .int v6, .int l7] [.ref l0, .int 6, .int 6, .ref r7] rfl ?_
      obtain ⟨r8, hr8, h⟩ := Option.bind_eq_some_iff.mp h
      refine rn_gR (c := 9) (f := 3) rfl rfl ⟨⟨rfl, rfl⟩, rfl⟩ hr8 ?_
      refine rn_steps 0 163 [.ref l0, .int l1, .int l2, .int l3, .int l4, .int l5, .int v6, .int l7] [.ref r8, .int 6, .int 6, .ref r7] rfl ?_
      obtain ⟨r9, hr9, h⟩ := Option.bind_eq_some_iff.mp h
      refine rn_gR (c := 8) (f := 13) rfl rfl ⟨⟨rfl, rfl⟩, rfl⟩ hr9 ?_
      refine rn_steps 1 168 [.ref l0, .int l1, .int l2, .int l3, .int l4, .int l5, .int v6, .int l7] [.int l7, .ref r9, .int 6, .int 6, .ref r7] rfl ?_
      obtain ⟨v10, hv10, h⟩ := Option.bind_eq_some_iff.mp h
      refine rn_aI rfl hv10 ?_
      refine rn_steps 3 172 [.ref l0, .int l1, .int l2, .int l3, .int l4, .int l5, .int v6, .int l7] [.ref l0, .int (6 + (6 * v10)), .ref r7] rfl ?_
      obtain ⟨r11, hr11, h⟩ := Option.bind_eq_some_iff.mp h
      refine rn_gR (c := 9) (f := 3) rfl rfl ⟨⟨rfl, rfl⟩, rfl⟩ hr11 ?_
      refine rn_steps 0 175 [.ref l0, .int l1, .int l2, .int l3, .int l4, .int l5, .int v6, .int l7] [.ref r11, .int (6 + (6 * v10)), .ref r7] rfl ?_
      obtain ⟨r12, hr12, h⟩ := Option.bind_eq_some_iff.mp h
      refine rn_gR (c := 8) (f := 14) rfl rfl ⟨⟨rfl, rfl⟩, rfl⟩ hr12 ?_
      refine rn_steps 1 180 [.ref l0, .int l1, .int l2, .int l3, .int l4, .int l5, .int v6, .int l7] [.int l7, .ref r12, .int (6 + (6 * v10)), .ref r7] rfl ?_
      obtain ⟨v13, hv13, h⟩ := Option.bind_eq_some_iff.mp h
      refine rn_aI rfl hv13 ?_
      refine rn_steps 3 185 [.ref l0, .int l1, .int l2, .int l3, .int l4, .int l5, .int v6, .int l7] [.int l7, .ref l0, .int ((6 + (6 * v10)) + v13), .ref r7] rfl ?_
      obtain ⟨u18, hu18, h⟩ := Option.bind_eq_some_iff.mp h
      obtain ⟨y14, hy14, h⟩ := Option.bind_eq_some_iff.mp h
      refine rn_callV [.int l7] rfl rfl ⟨rfl, rfl⟩ hu18 rfl rfl (e237 (d + 3) hy14) ?_
      refine rn_steps 1 189 [.ref l0, .int l1, .int l2, .int l3, .int l4, .int l5, .int v6, .int l7] [.ref l0, .int y14.1, .int ((6 + (6 * v10)) + v13), .ref r7] rfl ?_
      obtain ⟨r15, hr15, h⟩ := Option.bind_eq_some_iff.mp h
      refine rn_gR (c := 9) (f := 30) rfl rfl ⟨⟨rfl, rfl⟩, rfl⟩ hr15 ?_
      refine rn_steps 1 194 [.ref l0, .int l1, .int l2, .int l3, .int l4, .int l5, .int v6, .int l7] [.int l7, .ref r15, .int y14.1, .int ((6 + (6 * v10)) + v13), .ref r7] rfl ?_
      obtain ⟨v16, hv16, h⟩ := Option.bind_eq_some_iff.mp h
      refine rn_aI rfl hv16 ?_
      refine rn_steps 1 196 [.ref l0, .int l1, .int l2, .int l3, .int l4, .int l5, .int v6, .int l7] [.int (y14.1 + v16), .int ((6 + (6 * v10)) + v13), .ref r7] rfl ?_
      obtain ⟨σ17, hσ17, h⟩ := Option.bind_eq_some_iff.mp h
      refine rn_tI rfl hσ17 ?_
      refine rn_steps 2 119 [.ref l0, .int l1, .int l2, .int l3, .int l4, .int l5, .int v6, .int (l7 + (-1))] [] rfl ?_
      exact ih _ _ _ _ _ _ _ _ _ _ h
noncomputable def f240_93 : Nat → Nat → Int32 → Int32 → Int32 → Int32 → Int32 → xM → Option (Int32 × xM)
  | 0, _, _, _, _, _, _, _ => none
  | n + 1, l0, l1, l2, l3, l4, l5, σ =>
    if l4 ≤ l5 then
    f240_368 l3 σ
    else
    (cO σ l0 9).bind fun u4 =>
    (f189 l0 σ).bind fun y1 =>
    (gR y1 l0 9 3).bind fun r2 =>
    (gI y1 r2 8 5).bind fun v3 =>
    f240_119 (f240_93 n) 1100 l0 l1 l2 l3 l4 l5 l5 (v3 - 1) y1
set_option maxRecDepth 20000 in
set_option maxHeartbeats 1000000 in
theorem e240_93 (d : Nat) : ∀ (n : Nat) (l0 : Nat) (l1 : Int32) (l2 : Int32) (l3 : Int32) (l4 : Int32) (l5 : Int32) (x6 x7 : Value) (σ : xM) (y : Int32 × xM), f240_93 n l0 l1 l2 l3 l4 l5 σ = some y → Rn (d + 4) 240 93 [.ref l0, .int l1, .int l2, .int l3, .int l4, .int l5, x6, x7] [] σ (some (.int y.1), y.2) := by
  intro n
  induction n with
  | zero => intro l0 l1 l2 l3 l4 l5 x6 x7 σ y h; cases h
  | succ n ih =>
    intro l0 l1 l2 l3 l4 l5 x6 x7 σ y h
    unfold f240_93 at h
    refine rn_steps 2 97 [.ref l0, .int l1, .int l2, .int l3, .int l4, .int l5, x6, x7] [.int l4, .int l5] rfl ?_
    refine rn_br (c := l4 ≤ l5) rfl rfl decide_eq_true_iff (fun hb => ?_) (fun hb => ?_)
    · rw [if_pos hb] at h
      refine rn_steps 0 368 [.ref l0, .int l1, .int l2, .int l3, .int l4, .int l5, x6, x7] [] rfl ?_
      exact e240_368 d _ _ _ _ _ _ _ _ _ _ h
    · rw [if_neg hb] at h
      refine rn_steps 3 105 [.ref l0, .int l1, .int l2, .int l3, .int l4, .int l5, .int l5, x7] [.ref l0] rfl ?_
      obtain ⟨u4, hu4, h⟩ := Option.bind_eq_some_iff.mp h
      obtain ⟨y1, hy1, h⟩ := Option.bind_eq_some_iff.mp h
      refine rn_callV [] rfl rfl ⟨rfl, rfl⟩ hu4 rfl rfl (e189 (d + 3) hy1) ?_
      refine rn_steps 1 109 [.ref l0, .int l1, .int l2, .int l3, .int l4, .int l5, .int l5, x7] [.ref l0] rfl ?_
      obtain ⟨r2, hr2, h⟩ := Option.bind_eq_some_iff.mp h
      refine rn_gR (c := 9) (f := 3) rfl rfl ⟨⟨rfl, rfl⟩, rfl⟩ hr2 ?_
      refine rn_steps 0 112 [.ref l0, .int l1, .int l2, .int l3, .int l4, .int l5, .int l5, x7] [.ref r2] rfl ?_
      obtain ⟨v3, hv3, h⟩ := Option.bind_eq_some_iff.mp h
      refine rn_gI (c := 8) (f := 5) rfl rfl ⟨⟨rfl, rfl⟩, Or.inl rfl⟩ hv3 ?_
      refine rn_steps 3 119 [.ref l0, .int l1, .int l2, .int l3, .int l4, .int l5, .int l5, .int (v3 - 1)] [] rfl ?_
      exact e240_119 d _ ih 1100 _ _ _ _ _ _ _ _ _ _ h
noncomputable def f240_90 (l0 : Nat) (l1 : Int32) (l2 : Int32) (l3 : Int32) (l4 : Int32) (σ : xM) : Option (Int32 × xM) :=
  f240_93 1100 l0 l1 l2 l3 l4 0 σ
set_option maxRecDepth 20000 in
set_option maxHeartbeats 1000000 in
theorem e240_90 (d : Nat) (l0 : Nat) (l1 : Int32) (l2 : Int32) (l3 : Int32) (l4 : Int32) (x5 x6 x7 : Value) (σ : xM) (y : Int32 × xM) (h : f240_90 l0 l1 l2 l3 l4 σ = some y) : Rn (d + 4) 240 90 [.ref l0, .int l1, .int l2, .int l3, .int l4, x5, x6, x7] [] σ (some (.int y.1), y.2) := by
  unfold f240_90 at h
  refine rn_steps 2 93 [.ref l0, .int l1, .int l2, .int l3, .int l4, .int 0, x6, x7] [] rfl ?_
  exact e240_93 d 1100 _ _ _ _ _ _ _ _ _ _ h
noncomputable def f240_69 : Nat → Nat → Int32 → Int32 → Int32 → Int32 → Int32 → xM → Option (Int32 × xM)
  | 0, _, _, _, _, _, _, _ => none
  | n + 1, l0, l1, l2, l3, l4, l5, σ =>
    if 36 ≤ l5 then
    f240_90 l0 l1 l2 l3 l4 σ
    else
    (gR σ l0 9 32).bind fun r1 =>
    (tI σ r1 l5 0).bind fun σ2 =>
    (f240_69 n) l0 l1 l2 l3 l4 (l5 + 1) σ2
set_option maxRecDepth 20000 in
set_option maxHeartbeats 1000000 in
theorem e240_69 (d : Nat) : ∀ (n : Nat) (l0 : Nat) (l1 : Int32) (l2 : Int32) (l3 : Int32) (l4 : Int32) (l5 : Int32) (x6 x7 : Value) (σ : xM) (y : Int32 × xM), f240_69 n l0 l1 l2 l3 l4 l5 σ = some y → Rn (d + 4) 240 69 [.ref l0, .int l1, .int l2, .int l3, .int l4, .int l5, x6, x7] [] σ (some (.int y.1), y.2) := by
  intro n
  induction n with
  | zero => intro l0 l1 l2 l3 l4 l5 x6 x7 σ y h; cases h
  | succ n ih =>
    intro l0 l1 l2 l3 l4 l5 x6 x7 σ y h
    unfold f240_69 at h
    refine rn_steps 2 73 [.ref l0, .int l1, .int l2, .int l3, .int l4, .int l5, x6, x7] [.int 36, .int l5] rfl ?_
    refine rn_br (c := 36 ≤ l5) rfl rfl decide_eq_true_iff (fun hb => ?_) (fun hb => ?_)
    · rw [if_pos hb] at h
      refine rn_steps 0 90 [.ref l0, .int l1, .int l2, .int l3, .int l4, .int l5, x6, x7] [] rfl ?_
      exact e240_90 d _ _ _ _ _ _ _ _ _ _ h
    · rw [if_neg hb] at h
      refine rn_steps 1 77 [.ref l0, .int l1, .int l2, .int l3, .int l4, .int l5, x6, x7] [.ref l0] rfl ?_
      obtain ⟨r1, hr1, h⟩ := Option.bind_eq_some_iff.mp h
      refine rn_gR (c := 9) (f := 32) rfl rfl ⟨⟨rfl, rfl⟩, rfl⟩ hr1 ?_
      refine rn_steps 2 83 [.ref l0, .int l1, .int l2, .int l3, .int l4, .int l5, x6, x7] [.int 0, .int l5, .ref r1] rfl ?_
      obtain ⟨σ2, hσ2, h⟩ := Option.bind_eq_some_iff.mp h
      refine rn_tI rfl hσ2 ?_
      refine rn_steps 2 69 [.ref l0, .int l1, .int l2, .int l3, .int l4, .int (l5 + 1), x6, x7] [] rfl ?_
      exact ih _ _ _ _ _ _ _ _ _ _ h
noncomputable def f240_66 (l0 : Nat) (l1 : Int32) (l2 : Int32) (l3 : Int32) (l4 : Int32) (σ : xM) : Option (Int32 × xM) :=
  f240_69 1100 l0 l1 l2 l3 l4 0 σ
set_option maxRecDepth 20000 in
set_option maxHeartbeats 1000000 in
theorem e240_66 (d : Nat) (l0 : Nat) (l1 : Int32) (l2 : Int32) (l3 : Int32) (l4 : Int32) (x5 x6 x7 : Value) (σ : xM) (y : Int32 × xM) (h : f240_66 l0 l1 l2 l3 l4 σ = some y) : Rn (d + 4) 240 66 [.ref l0, .int l1, .int l2, .int l3, .int l4, x5, x6, x7] [] σ (some (.int y.1), y.2) := by
  unfold f240_66 at h
  refine rn_steps 2 69 [.ref l0, .int l1, .int l2, .int l3, .int l4, .int 0, x6, x7] [] rfl ?_
  exact e240_69 d 1100 _ _ _ _ _ _ _ _ _ _ h
noncomputable def f240_45 : Nat → Nat → Int32 → Int32 → Int32 → Int32 → Int32 → xM → Option (Int32 × xM)
  | 0, _, _, _, _, _, _, _ => none
  | n + 1, l0, l1, l2, l3, l4, l5, σ =>
    if 21 ≤ l5 then
    f240_66 l0 l1 l2 l3 l4 σ
    else
    (gR σ l0 9 31).bind fun r1 =>
    (tI σ r1 l5 0).bind fun σ2 =>
    (f240_45 n) l0 l1 l2 l3 l4 (l5 + 1) σ2
set_option maxRecDepth 20000 in
set_option maxHeartbeats 1000000 in
theorem e240_45 (d : Nat) : ∀ (n : Nat) (l0 : Nat) (l1 : Int32) (l2 : Int32) (l3 : Int32) (l4 : Int32) (l5 : Int32) (x6 x7 : Value) (σ : xM) (y : Int32 × xM), f240_45 n l0 l1 l2 l3 l4 l5 σ = some y → Rn (d + 4) 240 45 [.ref l0, .int l1, .int l2, .int l3, .int l4, .int l5, x6, x7] [] σ (some (.int y.1), y.2) := by
  intro n
  induction n with
  | zero => intro l0 l1 l2 l3 l4 l5 x6 x7 σ y h; cases h
  | succ n ih =>
    intro l0 l1 l2 l3 l4 l5 x6 x7 σ y h
    unfold f240_45 at h
    refine rn_steps 2 49 [.ref l0, .int l1, .int l2, .int l3, .int l4, .int l5, x6, x7] [.int 21, .int l5] rfl ?_
    refine rn_br (c := 21 ≤ l5) rfl rfl decide_eq_true_iff (fun hb => ?_) (fun hb => ?_)
    · rw [if_pos hb] at h
      refine rn_steps 0 66 [.ref l0, .int l1, .int l2, .int l3, .int l4, .int l5, x6, x7] [] rfl ?_
      exact e240_66 d _ _ _ _ _ _ _ _ _ _ h
    · rw [if_neg hb] at h
      refine rn_steps 1 53 [.ref l0, .int l1, .int l2, .int l3, .int l4, .int l5, x6, x7] [.ref l0] rfl ?_
      obtain ⟨r1, hr1, h⟩ := Option.bind_eq_some_iff.mp h
      refine rn_gR (c := 9) (f := 31) rfl rfl ⟨⟨rfl, rfl⟩, rfl⟩ hr1 ?_
      refine rn_steps 2 59 [.ref l0, .int l1, .int l2, .int l3, .int l4, .int l5, x6, x7] [.int 0, .int l5, .ref r1] rfl ?_
      obtain ⟨σ2, hσ2, h⟩ := Option.bind_eq_some_iff.mp h
      refine rn_tI rfl hσ2 ?_
      refine rn_steps 2 45 [.ref l0, .int l1, .int l2, .int l3, .int l4, .int (l5 + 1), x6, x7] [] rfl ?_
      exact ih _ _ _ _ _ _ _ _ _ _ h
noncomputable def f240_42 (l0 : Nat) (l1 : Int32) (l2 : Int32) (l3 : Int32) (l4 : Int32) (σ : xM) : Option (Int32 × xM) :=
  f240_45 1100 l0 l1 l2 l3 l4 0 σ
set_option maxRecDepth 20000 in
set_option maxHeartbeats 1000000 in
theorem e240_42 (d : Nat) (l0 : Nat) (l1 : Int32) (l2 : Int32) (l3 : Int32) (l4 : Int32) (x5 x6 x7 : Value) (σ : xM) (y : Int32 × xM) (h : f240_42 l0 l1 l2 l3 l4 σ = some y) : Rn (d + 4) 240 42 [.ref l0, .int l1, .int l2, .int l3, .int l4, x5, x6, x7] [] σ (some (.int y.1), y.2) := by
  unfold f240_42 at h
  refine rn_steps 2 45 [.ref l0, .int l1, .int l2, .int l3, .int l4, .int 0, x6, x7] [] rfl ?_
  exact e240_45 d 1100 _ _ _ _ _ _ _ _ _ _ h
noncomputable def f240_13 : Nat → Nat → Int32 → Int32 → Int32 → Int32 → Int32 → xM → Option (Int32 × xM)
  | 0, _, _, _, _, _, _, _ => none
  | n + 1, l0, l1, l2, l3, l4, l5, σ =>
    (gR σ l0 9 3).bind fun r1 =>
    (gI σ r1 8 5).bind fun v2 =>
    if v2 ≤ l5 then
    f240_42 l0 l1 l2 l3 l4 σ
    else
    (cO σ l0 9).bind fun u4 =>
    (f238 l0 l5 σ).bind fun y3 =>
    (f240_13 n) l0 l1 l2 l3 (l4 * y3.1) (l5 + 1) y3.2
set_option maxRecDepth 20000 in
set_option maxHeartbeats 1000000 in
theorem e240_13 (d : Nat) : ∀ (n : Nat) (l0 : Nat) (l1 : Int32) (l2 : Int32) (l3 : Int32) (l4 : Int32) (l5 : Int32) (x6 x7 : Value) (σ : xM) (y : Int32 × xM), f240_13 n l0 l1 l2 l3 l4 l5 σ = some y → Rn (d + 4) 240 13 [.ref l0, .int l1, .int l2, .int l3, .int l4, .int l5, x6, x7] [] σ (some (.int y.1), y.2) := by
  intro n
  induction n with
  | zero => intro l0 l1 l2 l3 l4 l5 x6 x7 σ y h; cases h
  | succ n ih =>
    intro l0 l1 l2 l3 l4 l5 x6 x7 σ y h
    unfold f240_13 at h
    refine rn_steps 2 16 [.ref l0, .int l1, .int l2, .int l3, .int l4, .int l5, x6, x7] [.ref l0, .int l5] rfl ?_
    obtain ⟨r1, hr1, h⟩ := Option.bind_eq_some_iff.mp h
    refine rn_gR (c := 9) (f := 3) rfl rfl ⟨⟨rfl, rfl⟩, rfl⟩ hr1 ?_
    refine rn_steps 0 19 [.ref l0, .int l1, .int l2, .int l3, .int l4, .int l5, x6, x7] [.ref r1, .int l5] rfl ?_
    obtain ⟨v2, hv2, h⟩ := Option.bind_eq_some_iff.mp h
    refine rn_gI (c := 8) (f := 5) rfl rfl ⟨⟨rfl, rfl⟩, Or.inl rfl⟩ hv2 ?_
    refine rn_steps 0 22 [.ref l0, .int l1, .int l2, .int l3, .int l4, .int l5, x6, x7] [.int v2, .int l5] rfl ?_
    refine rn_br (c := v2 ≤ l5) rfl rfl decide_eq_true_iff (fun hb => ?_) (fun hb => ?_)
    · rw [if_pos hb] at h
      refine rn_steps 0 42 [.ref l0, .int l1, .int l2, .int l3, .int l4, .int l5, x6, x7] [] rfl ?_
      exact e240_42 d _ _ _ _ _ _ _ _ _ _ h
    · rw [if_neg hb] at h
      refine rn_steps 3 30 [.ref l0, .int l1, .int l2, .int l3, .int l4, .int l5, x6, x7] [.int l5, .ref l0, .int l4] rfl ?_
      obtain ⟨u4, hu4, h⟩ := Option.bind_eq_some_iff.mp h
      obtain ⟨y3, hy3, h⟩ := Option.bind_eq_some_iff.mp h
      refine rn_callV [.int l5] rfl rfl ⟨rfl, rfl⟩ hu4 rfl rfl (e238 (d + 2) hy3) ?_
      refine rn_steps 4 13 [.ref l0, .int l1, .int l2, .int l3, .int (l4 * y3.1), .int (l5 + 1), x6, x7] [] rfl ?_
      exact ih _ _ _ _ _ _ _ _ _ _ h
/-- LastAskedModel.fitting(II)Z -/
noncomputable def f240 (l0 : Nat) (l1 : Int32) (l2 : Int32) (σ : xM) : Option (Int32 × xM) :=
  (pI σ l0 9 33 0).bind fun σ1 =>
  f240_13 1100 l0 l1 l2 0 1 0 σ1
set_option maxRecDepth 20000 in
set_option maxHeartbeats 1000000 in
theorem e240 (d : Nat) {l0 : Nat} {l1 : Int32} {l2 : Int32} {σ : xM} {y : Int32 × xM} (h : f240 l0 l1 l2 σ = some y) : Rn (d + 4) 240 0 [.ref l0, .int l1, .int l2, .retAddr 0, .retAddr 0, .retAddr 0, .retAddr 0, .retAddr 0] [] σ (some (.int y.1), y.2) := by
  unfold f240 at h
  refine rn_steps 6 7 [.ref l0, .int l1, .int l2, .int 0, .int 1, .retAddr 0, .retAddr 0, .retAddr 0] [.int 0, .ref l0] rfl ?_
  obtain ⟨σ1, hσ1, h⟩ := Option.bind_eq_some_iff.mp h
  refine rn_pI (c := 9) (f := 33) rfl rfl ⟨⟨rfl, rfl⟩, rfl⟩ hσ1 ?_
  refine rn_steps 2 13 [.ref l0, .int l1, .int l2, .int 0, .int 1, .int 0, .retAddr 0, .retAddr 0] [] rfl ?_
  exact e240_13 d 1100 _ _ _ _ _ _ _ _ _ _ h
