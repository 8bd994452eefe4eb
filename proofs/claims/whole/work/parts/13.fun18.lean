noncomputable def f239_51 (σ : xM) : Option (Int32 × xM) :=
  some ((-2), σ)
set_option maxRecDepth 20000 in
set_option maxHeartbeats 1000000 in
theorem e239_51 (d : Nat) (x0 x1 : Value) (σ : xM) (y : Int32 × xM) (h : f239_51 σ = some y) : Rn (d + 3) 239 51 [x0, x1] [] σ (some (.int y.1), y.2) := by
  unfold f239_51 at h
  refine rn_steps 1 53 [x0, x1] [.int (-2)] rfl ?_
  cases h
  exact rn_ret rfl rfl rfl
noncomputable def f239_45 (K2 : Nat → Int32 → xM → Option (Int32 × xM)) (l0 : Nat) (l1 : Int32) (σ : xM) : Option (Int32 × xM) :=
  K2 l0 (l1 + 1) σ
set_option maxRecDepth 20000 in
set_option maxHeartbeats 1000000 in
theorem e239_45 (d : Nat) (K2 : Nat → Int32 → xM → Option (Int32 × xM)) (hK2 : ∀ (l0 : Nat) (l1 : Int32) (σ : xM) (y : Int32 × xM), K2 l0 l1 σ = some y → Rn (d + 3) 239 2 [.ref l0, .int l1] [] σ (some (.int y.1), y.2)) (l0 : Nat) (l1 : Int32) (σ : xM) (y : Int32 × xM) (h : f239_45 K2 l0 l1 σ = some y) : Rn (d + 3) 239 45 [.ref l0, .int l1] [] σ (some (.int y.1), y.2) := by
  unfold f239_45 at h
  refine rn_steps 2 2 [.ref l0, .int (l1 + 1)] [] rfl ?_
  exact hK2 _ _ _ _ h
noncomputable def f239_2 : Nat → Nat → Int32 → xM → Option (Int32 × xM)
  | 0, _, _, _ => none
  | n + 1, l0, l1, σ =>
    (gR σ l0 9 3).bind fun r1 =>
    (gI σ r1 8 2).bind fun v2 =>
    if v2 ≤ l1 then
    f239_51 σ
    else
    (gR σ l0 9 3).bind fun r3 =>
    (gR σ r3 8 11).bind fun r4 =>
    (aI σ r4 l1).bind fun v5 =>
    if v5 = (-1) then
    f239_45 (f239_2 n) l0 l1 σ
    else
    (cO σ l0 9).bind fun u10 =>
    (f192 l0 l1 σ).bind fun y6 =>
    (gR y6.2 l0 9 3).bind fun r7 =>
    (gR y6.2 r7 8 11).bind fun r8 =>
    (aI y6.2 r8 l1).bind fun v9 =>
    if y6.1 = v9 then
    f239_45 (f239_2 n) l0 l1 y6.2
    else
    some (l1, y6.2)
set_option maxRecDepth 20000 in
set_option maxHeartbeats 1000000 in
theorem e239_2 (d : Nat) : ∀ (n : Nat) (l0 : Nat) (l1 : Int32) (σ : xM) (y : Int32 × xM), f239_2 n l0 l1 σ = some y → Rn (d + 3) 239 2 [.ref l0, .int l1] [] σ (some (.int y.1), y.2) := by
  intro n
  induction n with
  | zero => intro l0 l1 σ y h; cases h
  | succ n ih =>
    intro l0 l1 σ y h
    unfold f239_2 at h
    refine rn_steps 2 4 [.ref l0, .int l1] [.ref l0, .int l1] rfl ?_
    obtain ⟨r1, hr1, h⟩ := Option.bind_eq_some_iff.mp h
    refine rn_gR (c := 9) (f := 3) rfl rfl ⟨⟨rfl, rfl⟩, rfl⟩ hr1 ?_
    refine rn_steps 0 7 [.ref l0, .int l1] [.ref r1, .int l1] rfl ?_
    obtain ⟨v2, hv2, h⟩ := Option.bind_eq_some_iff.mp h
    refine rn_gI (c := 8) (f := 2) rfl rfl ⟨⟨rfl, rfl⟩, Or.inl rfl⟩ hv2 ?_
    refine rn_steps 0 10 [.ref l0, .int l1] [.int v2, .int l1] rfl ?_
    refine rn_br (c := v2 ≤ l1) rfl rfl decide_eq_true_iff (fun hb => ?_) (fun hb => ?_)
    · rw [if_pos hb] at h
      refine rn_steps 0 51 [.ref l0, .int l1] [] rfl ?_
      exact e239_51 d _ _ _ _ h
    · rw [if_neg hb] at h
      refine rn_steps 1 14 [.ref l0, .int l1] [.ref l0] rfl ?_
      obtain ⟨r3, hr3, h⟩ := Option.bind_eq_some_iff.mp h
      refine rn_gR (c := 9) (f := 3) rfl rfl ⟨⟨rfl, rfl⟩, rfl⟩ hr3 ?_
      refine rn_steps 0 17 [.ref l0, .int l1] [.ref r3] rfl ?_
      obtain ⟨r4, hr4, h⟩ := Option.bind_eq_some_iff.mp h
      refine rn_gR (c := 8) (f := 11) rfl rfl ⟨⟨rfl, rfl⟩, rfl⟩ hr4 ?_
      refine rn_steps 1 21 [.ref l0, .int l1] [.int l1, .ref r4] rfl ?_
      obtain ⟨v5, hv5, h⟩ := Option.bind_eq_some_iff.mp h
      refine rn_aI rfl hv5 ?_
      refine rn_steps 1 23 [.ref l0, .int l1] [.int (-1), .int v5] rfl ?_
      refine rn_br (c := v5 = (-1)) rfl rfl decide_eq_true_iff (fun hb => ?_) (fun hb => ?_)
      · rw [if_pos hb] at h
        refine rn_steps 0 45 [.ref l0, .int l1] [] rfl ?_
        exact e239_45 d _ ih _ _ _ _ h
      · rw [if_neg hb] at h
        refine rn_steps 2 28 [.ref l0, .int l1] [.int l1, .ref l0] rfl ?_
        obtain ⟨u10, hu10, h⟩ := Option.bind_eq_some_iff.mp h
        obtain ⟨y6, hy6, h⟩ := Option.bind_eq_some_iff.mp h
        refine rn_callV [.int l1] rfl rfl ⟨rfl, rfl⟩ hu10 rfl rfl (e192 d hy6) ?_
        refine rn_steps 1 32 [.ref l0, .int l1] [.ref l0, .int y6.1] rfl ?_
        obtain ⟨r7, hr7, h⟩ := Option.bind_eq_some_iff.mp h
        refine rn_gR (c := 9) (f := 3) rfl rfl ⟨⟨rfl, rfl⟩, rfl⟩ hr7 ?_
        refine rn_steps 0 35 [.ref l0, .int l1] [.ref r7, .int y6.1] rfl ?_
        obtain ⟨r8, hr8, h⟩ := Option.bind_eq_some_iff.mp h
        refine rn_gR (c := 8) (f := 11) rfl rfl ⟨⟨rfl, rfl⟩, rfl⟩ hr8 ?_
        refine rn_steps 1 39 [.ref l0, .int l1] [.int l1, .ref r8, .int y6.1] rfl ?_
        obtain ⟨v9, hv9, h⟩ := Option.bind_eq_some_iff.mp h
        refine rn_aI rfl hv9 ?_
        refine rn_steps 0 40 [.ref l0, .int l1] [.int v9, .int y6.1] rfl ?_
        refine rn_br (c := y6.1 = v9) rfl rfl decide_eq_true_iff (fun hb => ?_) (fun hb => ?_)
        · rw [if_pos hb] at h
          refine rn_steps 0 45 [.ref l0, .int l1] [] rfl ?_
          exact e239_45 d _ ih _ _ _ _ h
        · rw [if_neg hb] at h
          refine rn_steps 1 44 [.ref l0, .int l1] [.int l1] rfl ?_
          cases h
          exact rn_ret rfl rfl rfl
/-- LastAskedModel.wrong()I -/
noncomputable def f239 (l0 : Nat) (σ : xM) : Option (Int32 × xM) :=
  f239_2 1100 l0 0 σ
set_option maxRecDepth 20000 in
set_option maxHeartbeats 1000000 in
theorem e239 (d : Nat) {l0 : Nat} {σ : xM} {y : Int32 × xM} (h : f239 l0 σ = some y) : Rn (d + 3) 239 0 [.ref l0, .retAddr 0] [] σ (some (.int y.1), y.2) := by
  unfold f239 at h
  refine rn_steps 2 2 [.ref l0, .int 0] [] rfl ?_
  exact e239_2 d 1100 _ _ _ _ h
