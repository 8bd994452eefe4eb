noncomputable def f231_136 (l4 : Int32) (σ : xM) : Option (Int32 × xM) :=
  some (l4, σ)
set_option maxRecDepth 20000 in
set_option maxHeartbeats 1000000 in
theorem e231_136 (d : Nat) (l4 : Int32) (x0 x1 x2 x3 x5 x6 x7 x8 x9 x10 : Value) (σ : xM) (y : Int32 × xM) (h : f231_136 l4 σ = some y) : Rn (d + 5) 231 136 [x0, x1, x2, x3, .int l4, x5, x6, x7, x8, x9, x10] [] σ (some (.int y.1), y.2) := by
  unfold f231_136 at h
  refine rn_steps 1 138 [x0, x1, x2, x3, .int l4, x5, x6, x7, x8, x9, x10] [.int l4] rfl ?_
  cases h
  exact rn_ret rfl rfl rfl
noncomputable def f231_130 (K17 : Nat → Int32 → Int32 → Int32 → Int32 → Int64 → Int32 → xM → Option (Int32 × xM)) (l0 : Nat) (l1 : Int32) (l2 : Int32) (l3 : Int32) (l4 : Int32) (l5 : Int64) (l7 : Int32) (σ : xM) : Option (Int32 × xM) :=
  K17 l0 l1 l2 l3 l4 l5 (l7 + 1) σ
set_option maxRecDepth 20000 in
set_option maxHeartbeats 1000000 in
theorem e231_130 (d : Nat) (K17 : Nat → Int32 → Int32 → Int32 → Int32 → Int64 → Int32 → xM → Option (Int32 × xM)) (hK17 : ∀ (l0 : Nat) (l1 : Int32) (l2 : Int32) (l3 : Int32) (l4 : Int32) (l5 : Int64) (l7 : Int32) (x8 x9 x10 : Value) (σ : xM) (y : Int32 × xM), K17 l0 l1 l2 l3 l4 l5 l7 σ = some y → Rn (d + 5) 231 17 [.ref l0, .int l1, .int l2, .int l3, .int l4, .long l5, .retAddr 1, .int l7, x8, x9, x10] [] σ (some (.int y.1), y.2)) (l0 : Nat) (l1 : Int32) (l2 : Int32) (l3 : Int32) (l4 : Int32) (l5 : Int64) (l7 : Int32) (x8 x9 x10 : Value) (σ : xM) (y : Int32 × xM) (h : f231_130 K17 l0 l1 l2 l3 l4 l5 l7 σ = some y) : Rn (d + 5) 231 130 [.ref l0, .int l1, .int l2, .int l3, .int l4, .long l5, .retAddr 1, .int l7, x8, x9, x10] [] σ (some (.int y.1), y.2) := by
  unfold f231_130 at h
  refine rn_steps 2 17 [.ref l0, .int l1, .int l2, .int l3, .int l4, .long l5, .retAddr 1, .int (l7 + 1), x8, x9, x10] [] rfl ?_
  exact hK17 _ _ _ _ _ _ _ _ _ _ _ _ h
noncomputable def f231_98 (K17 : Nat → Int32 → Int32 → Int32 → Int32 → Int64 → Int32 → xM → Option (Int32 × xM)) (l0 : Nat) (l1 : Int32) (l2 : Int32) (l3 : Int32) (l4 : Int32) (l5 : Int64) (l7 : Int32) (l8 : Int32) (σ : xM) : Option (Int32 × xM) :=
  (cO σ l0 9).bind fun u3 =>
  (f219 l0 l1 σ).bind fun y1 =>
  if 0 < (lg_cmp y1.1 l5) then
  (pI y1.2 l0 9 29 l8).bind fun σ2 =>
  f231_130 K17 l0 l1 l2 l3 l7 y1.1 l7 σ2
  else
  f231_130 K17 l0 l1 l2 l3 l4 l5 l7 y1.2
set_option maxRecDepth 20000 in
set_option maxHeartbeats 1000000 in
theorem e231_98 (d : Nat) (K17 : Nat → Int32 → Int32 → Int32 → Int32 → Int64 → Int32 → xM → Option (Int32 × xM)) (hK17 : ∀ (l0 : Nat) (l1 : Int32) (l2 : Int32) (l3 : Int32) (l4 : Int32) (l5 : Int64) (l7 : Int32) (x8 x9 x10 : Value) (σ : xM) (y : Int32 × xM), K17 l0 l1 l2 l3 l4 l5 l7 σ = some y → Rn (d + 5) 231 17 [.ref l0, .int l1, .int l2, .int l3, .int l4, .long l5, .retAddr 1, .int l7, x8, x9, x10] [] σ (some (.int y.1), y.2)) (l0 : Nat) (l1 : Int32) (l2 : Int32) (l3 : Int32) (l4 : Int32) (l5 : Int64) (l7 : Int32) (l8 : Int32) (x9 x10 : Value) (σ : xM) (y : Int32 × xM) (h : f231_98 K17 l0 l1 l2 l3 l4 l5 l7 l8 σ = some y) : Rn (d + 5) 231 98 [.ref l0, .int l1, .int l2, .int l3, .int l4, .long l5, .retAddr 1, .int l7, .int l8, x9, x10] [] σ (some (.int y.1), y.2) := by
  unfold f231_98 at h
  refine rn_steps 2 100 [.ref l0, .int l1, .int l2, .int l3, .int l4, .long l5, .retAddr 1, .int l7, .int l8, x9, x10] [.int l1, .ref l0] rfl ?_
  obtain ⟨u3, hu3, h⟩ := Option.bind_eq_some_iff.mp h
  obtain ⟨y1, hy1, h⟩ := Option.bind_eq_some_iff.mp h
  refine rn_callV [.int l1] rfl rfl ⟨rfl, rfl⟩ hu3 rfl rfl (e219 d hy1) ?_
  refine rn_steps 4 110 [.ref l0, .int l1, .int l2, .int l3, .int l4, .long l5, .retAddr 1, .int l7, .int l8, .long y1.1, .retAddr 1] [.int (lg_cmp y1.1 l5)] rfl ?_
  refine rn_br (c := 0 < (lg_cmp y1.1 l5)) rfl rfl decide_eq_true_iff (fun hb => ?_) (fun hb => ?_)
  · rw [if_pos hb] at h
    refine rn_steps 6 127 [.ref l0, .int l1, .int l2, .int l3, .int l7, .long y1.1, .retAddr 1, .int l7, .int l8, .long y1.1, .retAddr 1] [.int l8, .ref l0] rfl ?_
    obtain ⟨σ2, hσ2, h⟩ := Option.bind_eq_some_iff.mp h
    refine rn_pI (c := 9) (f := 29) rfl rfl ⟨⟨rfl, rfl⟩, rfl⟩ hσ2 ?_
    refine rn_steps 0 130 [.ref l0, .int l1, .int l2, .int l3, .int l7, .long y1.1, .retAddr 1, .int l7, .int l8, .long y1.1, .retAddr 1] [] rfl ?_
    exact e231_130 d _ hK17 _ _ _ _ _ _ _ _ _ _ _ _ h
  · rw [if_neg hb] at h
    refine rn_steps 1 130 [.ref l0, .int l1, .int l2, .int l3, .int l4, .long l5, .retAddr 1, .int l7, .int l8, .long y1.1, .retAddr 1] [] rfl ?_
    exact e231_130 d _ hK17 _ _ _ _ _ _ _ _ _ _ _ _ h
noncomputable def f231_92 (K17 : Nat → Int32 → Int32 → Int32 → Int32 → Int64 → Int32 → xM → Option (Int32 × xM)) (K63 : Nat → Int32 → Int32 → Int32 → Int32 → Int64 → Int32 → Int32 → Int32 → xM → Option (Int32 × xM)) (l0 : Nat) (l1 : Int32) (l2 : Int32) (l3 : Int32) (l4 : Int32) (l5 : Int64) (l7 : Int32) (l8 : Int32) (l9 : Int32) (σ : xM) : Option (Int32 × xM) :=
  K63 l0 l1 l2 l3 l4 l5 l7 l8 (l9 + 1) σ
set_option maxRecDepth 20000 in
set_option maxHeartbeats 1000000 in
theorem e231_92 (d : Nat) (K17 : Nat → Int32 → Int32 → Int32 → Int32 → Int64 → Int32 → xM → Option (Int32 × xM)) (hK17 : ∀ (l0 : Nat) (l1 : Int32) (l2 : Int32) (l3 : Int32) (l4 : Int32) (l5 : Int64) (l7 : Int32) (x8 x9 x10 : Value) (σ : xM) (y : Int32 × xM), K17 l0 l1 l2 l3 l4 l5 l7 σ = some y → Rn (d + 5) 231 17 [.ref l0, .int l1, .int l2, .int l3, .int l4, .long l5, .retAddr 1, .int l7, x8, x9, x10] [] σ (some (.int y.1), y.2)) (K63 : Nat → Int32 → Int32 → Int32 → Int32 → Int64 → Int32 → Int32 → Int32 → xM → Option (Int32 × xM)) (hK63 : ∀ (l0 : Nat) (l1 : Int32) (l2 : Int32) (l3 : Int32) (l4 : Int32) (l5 : Int64) (l7 : Int32) (l8 : Int32) (l9 : Int32) (x10 : Value) (σ : xM) (y : Int32 × xM), K63 l0 l1 l2 l3 l4 l5 l7 l8 l9 σ = some y → Rn (d + 5) 231 63 [.ref l0, .int l1, .int l2, .int l3, .int l4, .long l5, .retAddr 1, .int l7, .int l8, .int l9, x10] [] σ (some (.int y.1), y.2)) (l0 : Nat) (l1 : Int32) (l2 : Int32) (l3 : Int32) (l4 : Int32) (l5 : Int64) (l7 : Int32) (l8 : Int32) (l9 : Int32) (x10 : Value) (σ : xM) (y : Int32 × xM) (h : f231_92 K17 K63 l0 l1 l2 l3 l4 l5 l7 l8 l9 σ = some y) : Rn (d + 5) 231 92 [.ref l0, .int l1, .int l2, .int l3, .int l4, .long l5, .retAddr 1, .int l7, .int l8, .int l9, x10] [] σ (some (.int y.1), y.2) := by
  unfold f231_92 at h
  refine rn_steps 2 63 [.ref l0, .int l1, .int l2, .int l3, .int l4, .long l5, .retAddr 1, .int l7, .int l8, .int (l9 + 1), x10] [] rfl ?_
  exact hK63 _ _ _ _ _ _ _ _ _ _ _ _ h
noncomputable def f231_63 (K17 : Nat → Int32 → Int32 → Int32 → Int32 → Int64 → Int32 → xM → Option (Int32 × xM)) : Nat → Nat → Int32 → Int32 → Int32 → Int32 → Int64 → Int32 → Int32 → Int32 → xM → Option (Int32 × xM)
  | 0, _, _, _, _, _, _, _, _, _, _ => none
  | n + 1, l0, l1, l2, l3, l4, l5, l7, l8, l9, σ =>
    (gR σ l0 9 3).bind fun r1 =>
    (gI σ r1 8 2).bind fun v2 =>
    if v2 ≤ l9 then
    f231_98 K17 l0 l1 l2 l3 l4 l5 l7 l8 σ
    else
    (f157 l7 l9 σ).bind fun y3 =>
    if y3.1 = 0 then
    f231_92 K17 (f231_63 K17 n) l0 l1 l2 l3 l4 l5 l7 l8 l9 y3.2
    else
    (cO y3.2 l0 9).bind fun u5 =>
    (f224 l0 l1 l9 y3.2).bind fun y4 =>
    f231_92 K17 (f231_63 K17 n) l0 l1 l2 l3 l4 l5 l7 l8 l9 y4
set_option maxRecDepth 20000 in
set_option maxHeartbeats 1000000 in
theorem e231_63 (d : Nat) (K17 : Nat → Int32 → Int32 → Int32 → Int32 → Int64 → Int32 → xM → Option (Int32 × xM)) (hK17 : ∀ (l0 : Nat) (l1 : Int32) (l2 : Int32) (l3 : Int32) (l4 : Int32) (l5 : Int64) (l7 : Int32) (x8 x9 x10 : Value) (σ : xM) (y : Int32 × xM), K17 l0 l1 l2 l3 l4 l5 l7 σ = some y → Rn (d + 5) 231 17 [.ref l0, .int l1, .int l2, .int l3, .int l4, .long l5, .retAddr 1, .int l7, x8, x9, x10] [] σ (some (.int y.1), y.2)) : ∀ (n : Nat) (l0 : Nat) (l1 : Int32) (l2 : Int32) (l3 : Int32) (l4 : Int32) (l5 : Int64) (l7 : Int32) (l8 : Int32) (l9 : Int32) (x10 : Value) (σ : xM) (y : Int32 × xM), f231_63 K17 n l0 l1 l2 l3 l4 l5 l7 l8 l9 σ = some y → Rn (d + 5) 231 63 [.ref l0, .int l1, .int l2, .int l3, .int l4, .long l5, .retAddr 1, .int l7, .int l8, .int l9, x10] [] σ (some (.int y.1), y.2) := by
  intro n
  induction n with
  | zero => intro l0 l1 l2 l3 l4 l5 l7 l8 l9 x10 σ y h; cases h
  | succ n ih =>
    intro l0 l1 l2 l3 l4 l5 l7 l8 l9 x10 σ y h
    unfold f231_63 at h
    refine rn_steps 2 66 [.ref l0, .int l1, .int l2, .int l3, .int l4, .long l5, .retAddr 1, .int l7, .int l8, .int l9, x10] [.ref l0, .int l9] rfl ?_
    obtain ⟨r1, hr1, h⟩ := Option.bind_eq_some_iff.mp h
    refine rn_gR (c := 9) (f := 3) rfl rfl ⟨⟨rfl, rfl⟩, rfl⟩ hr1 ?_
    refine rn_steps 0 69 [.ref l0, .int l1, .int l2, .int l3, .int l4, .long l5, .retAddr 1, .int l7, .int l8, .int l9, x10] [.ref r1, .int l9] rfl ?_
    obtain ⟨v2, hv2, h⟩ := Option.bind_eq_some_iff.mp h
    refine rn_gI (c := 8) (f := 2) rfl rfl ⟨⟨rfl, rfl⟩, Or.inl rfl⟩ hv2 ?_
    refine rn_steps 0 72 [.ref l0, .int l1, .int l2, .int l3, .int l4, .long l5, .retAddr 1, .int l7, .int l8, .int l9, x10] [.int v2, .int l9] rfl ?_
    refine rn_br (c := v2 ≤ l9) rfl rfl decide_eq_true_iff (fun hb => ?_) (fun hb => ?_)
    · rw [if_pos hb] at h
      refine rn_steps 0 98 [.ref l0, .int l1, .int l2, .int l3, .int l4, .long l5, .retAddr 1, .int l7, .int l8, .int l9, x10] [] rfl ?_
      exact e231_98 d _ hK17 _ _ _ _ _ _ _ _ _ _ _ _ h
    · rw [if_neg hb] at h
      refine rn_steps 2 79 [.ref l0, .int l1, .int l2, .int l3, .int l4, .long l5, .retAddr 1, .int l7, .int l8, .int l9, x10] [.int l9, .int l7] rfl ?_
      obtain ⟨y3, hy3, h⟩ := Option.bind_eq_some_iff.mp h
      refine rn_callS [.int l7, .int l9] rfl rfl rfl ⟨rfl, rfl, rfl⟩ rfl rfl (e157 (d + 4) hy3) ?_
      refine rn_steps 0 82 [.ref l0, .int l1, .int l2, .int l3, .int l4, .long l5, .retAddr 1, .int l7, .int l8, .int l9, x10] [.int y3.1] rfl ?_
      refine rn_br (c := y3.1 = 0) rfl rfl decide_eq_true_iff (fun hb => ?_) (fun hb => ?_)
      · rw [if_pos hb] at h
        refine rn_steps 0 92 [.ref l0, .int l1, .int l2, .int l3, .int l4, .long l5, .retAddr 1, .int l7, .int l8, .int l9, x10] [] rfl ?_
        exact e231_92 d _ hK17 _ ih _ _ _ _ _ _ _ _ _ _ _ _ h
      · rw [if_neg hb] at h
        refine rn_steps 3 89 [.ref l0, .int l1, .int l2, .int l3, .int l4, .long l5, .retAddr 1, .int l7, .int l8, .int l9, x10] [.int l9, .int l1, .ref l0] rfl ?_
        obtain ⟨u5, hu5, h⟩ := Option.bind_eq_some_iff.mp h
        obtain ⟨y4, hy4, h⟩ := Option.bind_eq_some_iff.mp h
        refine rn_callV [.int l1, .int l9] rfl rfl ⟨rfl, rfl⟩ hu5 rfl rfl (e224 (d + 4) hy4) ?_
        refine rn_steps 0 92 [.ref l0, .int l1, .int l2, .int l3, .int l4, .long l5, .retAddr 1, .int l7, .int l8, .int l9, x10] [] rfl ?_
        exact e231_92 d _ hK17 _ ih _ _ _ _ _ _ _ _ _ _ _ _ h
noncomputable def f231_17 : Nat → Nat → Int32 → Int32 → Int32 → Int32 → Int64 → Int32 → xM → Option (Int32 × xM)
  | 0, _, _, _, _, _, _, _, _ => none
  | n + 1, l0, l1, l2, l3, l4, l5, l7, σ =>
    if l3 < l7 then
    f231_136 l4 σ
    else
    if (l7 &&& (l3 ^^^ (-1))) = 0 then
    (cO σ l0 9).bind fun u4 =>
    (f229 l0 l1 l7 l2 σ).bind fun y1 =>
    if y1.1 = 9999 then
    f231_130 (f231_17 n) l0 l1 l2 l3 l4 l5 l7 y1.2
    else
    (cO y1.2 l0 9).bind fun u3 =>
    (f188 l0 y1.2).bind fun y2 =>
    f231_63 (f231_17 n) 1100 l0 l1 l2 l3 l4 l5 l7 y1.1 0 y2
    else
    f231_130 (f231_17 n) l0 l1 l2 l3 l4 l5 l7 σ
set_option maxRecDepth 20000 in
set_option maxHeartbeats 1000000 in
theorem e231_17 (d : Nat) : ∀ (n : Nat) (l0 : Nat) (l1 : Int32) (l2 : Int32) (l3 : Int32) (l4 : Int32) (l5 : Int64) (l7 : Int32) (x8 x9 x10 : Value) (σ : xM) (y : Int32 × xM), f231_17 n l0 l1 l2 l3 l4 l5 l7 σ = some y → Rn (d + 5) 231 17 [.ref l0, .int l1, .int l2, .int l3, .int l4, .long l5, .retAddr 1, .int l7, x8, x9, x10] [] σ (some (.int y.1), y.2) := by
  intro n
  induction n with
  | zero => intro l0 l1 l2 l3 l4 l5 l7 x8 x9 x10 σ y h; cases h
  | succ n ih =>
    intro l0 l1 l2 l3 l4 l5 l7 x8 x9 x10 σ y h
    unfold f231_17 at h
    refine rn_steps 2 20 [.ref l0, .int l1, .int l2, .int l3, .int l4, .long l5, .retAddr 1, .int l7, x8, x9, x10] [.int l3, .int l7] rfl ?_
    refine rn_br (c := l3 < l7) rfl rfl decide_eq_true_iff (fun hb => ?_) (fun hb => ?_)
    · rw [if_pos hb] at h
      refine rn_steps 0 136 [.ref l0, .int l1, .int l2, .int l3, .int l4, .long l5, .retAddr 1, .int l7, x8, x9, x10] [] rfl ?_
      exact e231_136 d _ _ _ _ _ _ _ _ _ _ _ _ _ h
    · rw [if_neg hb] at h
      refine rn_steps 5 29 [.ref l0, .int l1, .int l2, .int l3, .int l4, .long l5, .retAddr 1, .int l7, x8, x9, x10] [.int (l7 &&& (l3 ^^^ (-1)))] rfl ?_
      refine rn_br (c := (l7 &&& (l3 ^^^ (-1))) = 0) rfl rfl decide_eq_true_iff (fun hb => ?_) (fun hb => ?_)
      · rw [if_pos hb] at h
        refine rn_steps 4 40 [.ref l0, .int l1, .int l2, .int l3, .int l4, .long l5, .retAddr 1, .int l7, x8, x9, x10] [.int l2, .int l7, .int l1, .ref l0] rfl ?_
        obtain ⟨u4, hu4, h⟩ := Option.bind_eq_some_iff.mp h
        obtain ⟨y1, hy1, h⟩ := Option.bind_eq_some_iff.mp h
        refine rn_callV [.int l1, .int l7, .int l2] rfl rfl ⟨rfl, rfl⟩ hu4 rfl rfl (e229 (d + 2) hy1) ?_
        refine rn_steps 3 50 [.ref l0, .int l1, .int l2, .int l3, .int l4, .long l5, .retAddr 1, .int l7, .int y1.1, x9, x10] [.int 9999, .int y1.1] rfl ?_
        refine rn_br (c := ¬ y1.1 = 9999) rfl rfl decide_eq_true_iff (fun hb => ?_) (fun hb => ?_)
        · rw [if_neg hb] at h
          refine rn_steps 1 57 [.ref l0, .int l1, .int l2, .int l3, .int l4, .long l5, .retAddr 1, .int l7, .int y1.1, x9, x10] [.ref l0] rfl ?_
          obtain ⟨u3, hu3, h⟩ := Option.bind_eq_some_iff.mp h
          obtain ⟨y2, hy2, h⟩ := Option.bind_eq_some_iff.mp h
          refine rn_callV [] rfl rfl ⟨rfl, rfl⟩ hu3 rfl rfl (e188 (d + 4) hy2) ?_
          refine rn_steps 2 63 [.ref l0, .int l1, .int l2, .int l3, .int l4, .long l5, .retAddr 1, .int l7, .int y1.1, .int 0, x10] [] rfl ?_
          exact e231_63 d _ ih 1100 _ _ _ _ _ _ _ _ _ _ _ _ h
        · rw [if_pos (Decidable.not_not.mp hb)] at h
          refine rn_steps 1 130 [.ref l0, .int l1, .int l2, .int l3, .int l4, .long l5, .retAddr 1, .int l7, .int y1.1, x9, x10] [] rfl ?_
          exact e231_130 d _ ih _ _ _ _ _ _ _ _ _ _ _ _ h
      · rw [if_neg hb] at h
        refine rn_steps 1 130 [.ref l0, .int l1, .int l2, .int l3, .int l4, .long l5, .retAddr 1, .int l7, x8, x9, x10] [] rfl ?_
        exact e231_130 d _ ih _ _ _ _ _ _ _ _ _ _ _ _ h
/-- LastAskedModel.bestTour(II)I -/
noncomputable def f231 (l0 : Nat) (l1 : Int32) (l2 : Int32) (σ : xM) : Option (Int32 × xM) :=
  (cO σ l0 9).bind fun u2 =>
  (f199 l0 l1 σ).bind fun y1 =>
  f231_17 1100 l0 l1 l2 y1.1 0 (-1) 0 y1.2
set_option maxRecDepth 20000 in
set_option maxHeartbeats 1000000 in
theorem e231 (d : Nat) {l0 : Nat} {l1 : Int32} {l2 : Int32} {σ : xM} {y : Int32 × xM} (h : f231 l0 l1 l2 σ = some y) : Rn (d + 5) 231 0 [.ref l0, .int l1, .int l2, .retAddr 0, .retAddr 0, .retAddr 0, .retAddr 0, .retAddr 0, .retAddr 0, .retAddr 0, .retAddr 0] [] σ (some (.int y.1), y.2) := by
  unfold f231 at h
  refine rn_steps 2 2 [.ref l0, .int l1, .int l2, .retAddr 0, .retAddr 0, .retAddr 0, .retAddr 0, .retAddr 0, .retAddr 0, .retAddr 0, .retAddr 0] [.int l1, .ref l0] rfl ?_
  obtain ⟨u2, hu2, h⟩ := Option.bind_eq_some_iff.mp h
  obtain ⟨y1, hy1, h⟩ := Option.bind_eq_some_iff.mp h
  refine rn_callV [.int l1] rfl rfl ⟨rfl, rfl⟩ hu2 rfl rfl (e199 (d + 2) hy1) ?_
  refine rn_steps 7 17 [.ref l0, .int l1, .int l2, .int y1.1, .int 0, .long (-1), .retAddr 1, .int 0, .retAddr 0, .retAddr 0, .retAddr 0] [] rfl ?_
  exact e231_17 d 1100 _ _ _ _ _ _ _ _ _ _ _ _ h
