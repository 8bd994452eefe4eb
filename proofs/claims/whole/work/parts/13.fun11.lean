noncomputable def f230_47 (σ : xM) : Option xM :=
  some σ
set_option maxRecDepth 20000 in
set_option maxHeartbeats 1000000 in
theorem e230_47 (d : Nat) (x0 x1 x2 x3 : Value) (σ : xM) (y : xM) (h : f230_47 σ = some y) : Rn (d + 1) 230 47 [x0, x1, x2, x3] [] σ (none, y) := by
  unfold f230_47 at h
  cases h
  exact rn_ret rfl rfl rfl
noncomputable def f230_41 (K2 : Nat → Int32 → Int32 → Int32 → xM → Option xM) (l0 : Nat) (l1 : Int32) (l2 : Int32) (l3 : Int32) (σ : xM) : Option xM :=
  K2 l0 l1 l2 (l3 + 1) σ
set_option maxRecDepth 20000 in
set_option maxHeartbeats 1000000 in
theorem e230_41 (d : Nat) (K2 : Nat → Int32 → Int32 → Int32 → xM → Option xM) (hK2 : ∀ (l0 : Nat) (l1 : Int32) (l2 : Int32) (l3 : Int32) (σ : xM) (y : xM), K2 l0 l1 l2 l3 σ = some y → Rn (d + 1) 230 2 [.ref l0, .int l1, .int l2, .int l3] [] σ (none, y)) (l0 : Nat) (l1 : Int32) (l2 : Int32) (l3 : Int32) (σ : xM) (y : xM) (h : f230_41 K2 l0 l1 l2 l3 σ = some y) : Rn (d + 1) 230 41 [.ref l0, .int l1, .int l2, .int l3] [] σ (none, y) := by
  unfold f230_41 at h
  refine rn_steps 2 2 [.ref l0, .int l1, .int l2, .int (l3 + 1)] [] rfl ?_
  exact hK2 _ _ _ _ _ _ h
noncomputable def f230_2 : Nat → Nat → Int32 → Int32 → Int32 → xM → Option xM
  | 0, _, _, _, _, _ => none
  | n + 1, l0, l1, l2, l3, σ =>
    (gR σ l0 9 3).bind fun r1 =>
    (gI σ r1 8 2).bind fun v2 =>
    if v2 ≤ l3 then
    f230_47 σ
    else
    (cO σ l0 9).bind fun u8 =>
    (f198 l0 l2 σ).bind fun y3 =>
    (f157 y3.1 l3 y3.2).bind fun y4 =>
    if y4.1 = 0 then
    f230_41 (f230_2 n) l0 l1 l2 l3 y4.2
    else
    (gR y4.2 l0 9 28).bind fun r5 =>
    (aI y4.2 r5 (l1 ||| (1 <<< (l3 &&& 31)))).bind fun v6 =>
    (tI y4.2 r5 (l1 ||| (1 <<< (l3 &&& 31))) (v6 ||| (1 <<< (l3 &&& 31)))).bind fun σ7 =>
    f230_41 (f230_2 n) l0 l1 l2 l3 σ7
set_option maxRecDepth 20000 in
set_option maxHeartbeats 1000000 in
theorem e230_2 (d : Nat) : ∀ (n : Nat) (l0 : Nat) (l1 : Int32) (l2 : Int32) (l3 : Int32) (σ : xM) (y : xM), f230_2 n l0 l1 l2 l3 σ = some y → Rn (d + 1) 230 2 [.ref l0, .int l1, .int l2, .int l3] [] σ (none, y) := by
  intro n
  induction n with
  | zero => intro l0 l1 l2 l3 σ y h; cases h
  | succ n ih =>
    intro l0 l1 l2 l3 σ y h
    unfold f230_2 at h
    refine rn_steps 2 4 [.ref l0, .int l1, .int l2, .int l3] [.ref l0, .int l3] rfl ?_
    obtain ⟨r1, hr1, h⟩ := Option.bind_eq_some_iff.mp h
    refine rn_gR (c := 9) (f := 3) rfl rfl ⟨⟨rfl, rfl⟩, rfl⟩ hr1 ?_
    refine rn_steps 0 7 [.ref l0, .int l1, .int l2, .int l3] [.ref r1, .int l3] rfl ?_
    obtain ⟨v2, hv2, h⟩ := Option.bind_eq_some_iff.mp h
    refine rn_gI (c := 8) (f := 2) rfl rfl ⟨⟨rfl, rfl⟩, Or.inl rfl⟩ hv2 ?_
    refine rn_steps 0 10 [.ref l0, .int l1, .int l2, .int l3] [.int v2, .int l3] rfl ?_
    refine rn_br (c := v2 ≤ l3) rfl rfl decide_eq_true_iff (fun hb => ?_) (fun hb => ?_)
    · rw [if_pos hb] at h
      refine rn_steps 0 47 [.ref l0, .int l1, .int l2, .int l3] [] rfl ?_
      exact e230_47 d _ _ _ _ _ _ h
    · rw [if_neg hb] at h
      refine rn_steps 2 15 [.ref l0, .int l1, .int l2, .int l3] [.int l2, .ref l0] rfl ?_
      obtain ⟨u8, hu8, h⟩ := Option.bind_eq_some_iff.mp h
      obtain ⟨y3, hy3, h⟩ := Option.bind_eq_some_iff.mp h
      refine rn_callV [.int l2] rfl rfl ⟨rfl, rfl⟩ hu8 rfl rfl (e198 d hy3) ?_
      refine rn_steps 1 19 [.ref l0, .int l1, .int l2, .int l3] [.int l3, .int y3.1] rfl ?_
      obtain ⟨y4, hy4, h⟩ := Option.bind_eq_some_iff.mp h
      refine rn_callS [.int y3.1, .int l3] rfl rfl rfl ⟨rfl, rfl, rfl⟩ rfl rfl (e157 d hy4) ?_
      refine rn_steps 0 22 [.ref l0, .int l1, .int l2, .int l3] [.int y4.1] rfl ?_
      refine rn_br (c := y4.1 = 0) rfl rfl decide_eq_true_iff (fun hb => ?_) (fun hb => ?_)
      · rw [if_pos hb] at h
        refine rn_steps 0 41 [.ref l0, .int l1, .int l2, .int l3] [] rfl ?_
        exact e230_41 d _ ih _ _ _ _ _ _ h
      · rw [if_neg hb] at h
        refine rn_steps 1 26 [.ref l0, .int l1, .int l2, .int l3] [.ref l0] rfl ?_
        obtain ⟨r5, hr5, h⟩ := Option.bind_eq_some_iff.mp h
        refine rn_gR (c := 9) (f := 28) rfl rfl ⟨⟨rfl, rfl⟩, rfl⟩ hr5 ?_
        refine rn_steps 6 35 [.ref l0, .int l1, .int l2, .int l3] [.int (l1 ||| (1 <<< (l3 &&& 31))), .ref r5, .int (l1 ||| (1 <<< (l3 &&& 31))), .ref r5] rfl ?_
        obtain ⟨v6, hv6, h⟩ := Option.bind_eq_some_iff.mp h
        refine rn_aI rfl hv6 ?_
        refine rn_steps 4 40 [.ref l0, .int l1, .int l2, .int l3] [.int (v6 ||| (1 <<< (l3 &&& 31))), .int (l1 ||| (1 <<< (l3 &&& 31))), .ref r5] rfl ?_
        obtain ⟨σ7, hσ7, h⟩ := Option.bind_eq_some_iff.mp h
        refine rn_tI rfl hσ7 ?_
        refine rn_steps 0 41 [.ref l0, .int l1, .int l2, .int l3] [] rfl ?_
        exact e230_41 d _ ih _ _ _ _ _ _ h
/-- LastAskedModel.spreads(II)V -/
noncomputable def f230 (l0 : Nat) (l1 : Int32) (l2 : Int32) (σ : xM) : Option xM :=
  f230_2 1100 l0 l1 l2 0 σ
set_option maxRecDepth 20000 in
set_option maxHeartbeats 1000000 in
theorem e230 (d : Nat) {l0 : Nat} {l1 : Int32} {l2 : Int32} {σ : xM} {y : xM} (h : f230 l0 l1 l2 σ = some y) : Rn (d + 1) 230 0 [.ref l0, .int l1, .int l2, .retAddr 0] [] σ (none, y) := by
  unfold f230 at h
  refine rn_steps 2 2 [.ref l0, .int l1, .int l2, .int 0] [] rfl ?_
  exact e230_2 d 1100 _ _ _ _ _ _ h
