noncomputable def f225_197 (l6 : Int32) (σ : xM) : Option (Int32 × xM) :=
  some (l6, σ)
set_option maxRecDepth 20000 in
set_option maxHeartbeats 1000000 in
theorem e225_197 (d : Nat) (l6 : Int32) (x0 x1 x2 x3 x4 x5 x7 x8 x9 x10 x11 x12 : Value) (σ : xM) (y : Int32 × xM) (h : f225_197 l6 σ = some y) : Rn (d + 5) 225 197 [x0, x1, x2, x3, x4, x5, .int l6, x7, x8, x9, x10, x11, x12] [] σ (some (.int y.1), y.2) := by
  unfold f225_197 at h
  refine rn_steps 1 199 [x0, x1, x2, x3, x4, x5, .int l6, x7, x8, x9, x10, x11, x12] [.int l6] rfl ?_
  cases h
  exact rn_ret rfl rfl rfl
noncomputable def f225_191 (K54 : Nat → Int32 → Int32 → Int32 → Int32 → Int32 → Int32 → Int32 → xM → Option (Int32 × xM)) (l0 : Nat) (l1 : Int32) (l2 : Int32) (l3 : Int32) (l4 : Int32) (l5 : Int32) (l6 : Int32) (l7 : Int32) (σ : xM) : Option (Int32 × xM) :=
  K54 l0 l1 l2 l3 l4 l5 l6 (l7 + 1) σ
set_option maxRecDepth 20000 in
set_option maxHeartbeats 1000000 in
theorem e225_191 (d : Nat) (K54 : Nat → Int32 → Int32 → Int32 → Int32 → Int32 → Int32 → Int32 → xM → Option (Int32 × xM)) (hK54 : ∀ (l0 : Nat) (l1 : Int32) (l2 : Int32) (l3 : Int32) (l4 : Int32) (l5 : Int32) (l6 : Int32) (l7 : Int32) (x8 x9 x10 x11 x12 : Value) (σ : xM) (y : Int32 × xM), K54 l0 l1 l2 l3 l4 l5 l6 l7 σ = some y → Rn (d + 5) 225 54 [.ref l0, .int l1, .int l2, .int l3, .int l4, .int l5, .int l6, .int l7, x8, x9, x10, x11, x12] [] σ (some (.int y.1), y.2)) (l0 : Nat) (l1 : Int32) (l2 : Int32) (l3 : Int32) (l4 : Int32) (l5 : Int32) (l6 : Int32) (l7 : Int32) (x8 x9 x10 x11 x12 : Value) (σ : xM) (y : Int32 × xM) (h : f225_191 K54 l0 l1 l2 l3 l4 l5 l6 l7 σ = some y) : Rn (d + 5) 225 191 [.ref l0, .int l1, .int l2, .int l3, .int l4, .int l5, .int l6, .int l7, x8, x9, x10, x11, x12] [] σ (some (.int y.1), y.2) := by
  unfold f225_191 at h
  refine rn_steps 2 54 [.ref l0, .int l1, .int l2, .int l3, .int l4, .int l5, .int l6, .int (l7 + 1), x8, x9, x10, x11, x12] [] rfl ?_
  exact hK54 _ _ _ _ _ _ _ _ _ _ _ _ _ _ _ h
noncomputable def f225_153 (K54 : Nat → Int32 → Int32 → Int32 → Int32 → Int32 → Int32 → Int32 → xM → Option (Int32 × xM)) (l0 : Nat) (l1 : Int32) (l2 : Int32) (l3 : Int32) (l4 : Int32) (l5 : Int32) (l6 : Int32) (l7 : Int32) (l9 : Int32) (l10 : Int32) (σ : xM) : Option (Int32 × xM) :=
  if l10 = 0 then
  f225_191 K54 l0 l1 l2 l3 l4 l5 l6 l7 σ
  else
  (cO σ l0 9).bind fun u4 =>
  (f219 l0 l1 σ).bind fun y1 =>
  (gJ y1.2 l0 9 26).bind fun v2 =>
  if 0 < (lg_cmp y1.1 v2) then
  (pJ y1.2 l0 9 26 y1.1).bind fun σ3 =>
  f225_191 K54 l0 l1 l2 l3 l4 l5 l9 l7 σ3
  else
  f225_191 K54 l0 l1 l2 l3 l4 l5 l6 l7 y1.2
set_option maxRecDepth 20000 in
set_option maxHeartbeats 1000000 in
theorem e225_153 (d : Nat) (K54 : Nat → Int32 → Int32 → Int32 → Int32 → Int32 → Int32 → Int32 → xM → Option (Int32 × xM)) (hK54 : ∀ (l0 : Nat) (l1 : Int32) (l2 : Int32) (l3 : Int32) (l4 : Int32) (l5 : Int32) (l6 : Int32) (l7 : Int32) (x8 x9 x10 x11 x12 : Value) (σ : xM) (y : Int32 × xM), K54 l0 l1 l2 l3 l4 l5 l6 l7 σ = some y → Rn (d + 5) 225 54 [.ref l0, .int l1, .int l2, .int l3, .int l4, .int l5, .int l6, .int l7, x8, x9, x10, x11, x12] [] σ (some (.int y.1), y.2)) (l0 : Nat) (l1 : Int32) (l2 : Int32) (l3 : Int32) (l4 : Int32) (l5 : Int32) (l6 : Int32) (l7 : Int32) (l9 : Int32) (l10 : Int32) (x8 x11 x12 : Value) (σ : xM) (y : Int32 × xM) (h : f225_153 K54 l0 l1 l2 l3 l4 l5 l6 l7 l9 l10 σ = some y) : Rn (d + 5) 225 153 [.ref l0, .int l1, .int l2, .int l3, .int l4, .int l5, .int l6, .int l7, x8, .int l9, .int l10, x11, x12] [] σ (some (.int y.1), y.2) := by
  unfold f225_153 at h
  refine rn_steps 1 155 [.ref l0, .int l1, .int l2, .int l3, .int l4, .int l5, .int l6, .int l7, x8, .int l9, .int l10, x11, x12] [.int l10] rfl ?_
  refine rn_br (c := ¬ l10 = 0) rfl rfl decide_eq_true_iff (fun hb => ?_) (fun hb => ?_)
  · rw [if_neg hb] at h
    refine rn_steps 2 163 [.ref l0, .int l1, .int l2, .int l3, .int l4, .int l5, .int l6, .int l7, x8, .int l9, .int l10, x11, x12] [.int l1, .ref l0] rfl ?_
    obtain ⟨u4, hu4, h⟩ := Option.bind_eq_some_iff.mp h
    obtain ⟨y1, hy1, h⟩ := Option.bind_eq_some_iff.mp h
    refine rn_callV [.int l1] rfl rfl ⟨rfl, rfl⟩ hu4 rfl rfl (e219 d hy1) ?_
    refine rn_steps 3 171 [.ref l0, .int l1, .int l2, .int l3, .int l4, .int l5, .int l6, .int l7, x8, .int l9, .int l10, .long y1.1, .retAddr 1] [.ref l0, .long y1.1] rfl ?_
    obtain ⟨v2, hv2, h⟩ := Option.bind_eq_some_iff.mp h
    refine rn_gJ (c := 9) (f := 26) rfl rfl ⟨⟨rfl, rfl⟩, rfl⟩ hv2 ?_
    refine rn_steps 1 175 [.ref l0, .int l1, .int l2, .int l3, .int l4, .int l5, .int l6, .int l7, x8, .int l9, .int l10, .long y1.1, .retAddr 1] [.int (lg_cmp y1.1 v2)] rfl ?_
    refine rn_br (c := 0 < (lg_cmp y1.1 v2)) rfl rfl decide_eq_true_iff (fun hb => ?_) (fun hb => ?_)
    · rw [if_pos hb] at h
      refine rn_steps 2 184 [.ref l0, .int l1, .int l2, .int l3, .int l4, .int l5, .int l6, .int l7, x8, .int l9, .int l10, .long y1.1, .retAddr 1] [.long y1.1, .ref l0] rfl ?_
      obtain ⟨σ3, hσ3, h⟩ := Option.bind_eq_some_iff.mp h
      refine rn_pJ (c := 9) (f := 26) rfl rfl ⟨⟨rfl, rfl⟩, rfl⟩ hσ3 ?_
      refine rn_steps 2 191 [.ref l0, .int l1, .int l2, .int l3, .int l4, .int l5, .int l9, .int l7, x8, .int l9, .int l10, .long y1.1, .retAddr 1] [] rfl ?_
      exact e225_191 d _ hK54 _ _ _ _ _ _ _ _ _ _ _ _ _ _ _ h
    · rw [if_neg hb] at h
      refine rn_steps 1 191 [.ref l0, .int l1, .int l2, .int l3, .int l4, .int l5, .int l6, .int l7, x8, .int l9, .int l10, .long y1.1, .retAddr 1] [] rfl ?_
      exact e225_191 d _ hK54 _ _ _ _ _ _ _ _ _ _ _ _ _ _ _ h
  · rw [if_pos (Decidable.not_not.mp hb)] at h
    refine rn_steps 1 191 [.ref l0, .int l1, .int l2, .int l3, .int l4, .int l5, .int l6, .int l7, x8, .int l9, .int l10, x11, x12] [] rfl ?_
    exact e225_191 d _ hK54 _ _ _ _ _ _ _ _ _ _ _ _ _ _ _ h
noncomputable def f225_147 (K54 : Nat → Int32 → Int32 → Int32 → Int32 → Int32 → Int32 → Int32 → xM → Option (Int32 × xM)) (K78 : Nat → Int32 → Int32 → Int32 → Int32 → Int32 → Int32 → Int32 → Int32 → Int32 → Int32 → Int32 → xM → Option (Int32 × xM)) (l0 : Nat) (l1 : Int32) (l2 : Int32) (l3 : Int32) (l4 : Int32) (l5 : Int32) (l6 : Int32) (l7 : Int32) (l8 : Int32) (l9 : Int32) (l10 : Int32) (l11 : Int32) (σ : xM) : Option (Int32 × xM) :=
  K78 l0 l1 l2 l3 l4 l5 l6 l7 l8 l9 l10 (l11 + 1) σ
set_option maxRecDepth 20000 in
set_option maxHeartbeats 1000000 in
theorem e225_147 (d : Nat) (K54 : Nat → Int32 → Int32 → Int32 → Int32 → Int32 → Int32 → Int32 → xM → Option (Int32 × xM)) (hK54 : ∀ (l0 : Nat) (l1 : Int32) (l2 : Int32) (l3 : Int32) (l4 : Int32) (l5 : Int32) (l6 : Int32) (l7 : Int32) (x8 x9 x10 x11 x12 : Value) (σ : xM) (y : Int32 × xM), K54 l0 l1 l2 l3 l4 l5 l6 l7 σ = some y → Rn (d + 5) 225 54 [.ref l0, .int l1, .int l2, .int l3, .int l4, .int l5, .int l6, .int l7, x8, x9, x10, x11, x12] [] σ (some (.int y.1), y.2)) (K78 : Nat → Int32 → Int32 → Int32 → Int32 → Int32 → Int32 → Int32 → Int32 → Int32 → Int32 → Int32 → xM → Option (Int32 × xM)) (hK78 : ∀ (l0 : Nat) (l1 : Int32) (l2 : Int32) (l3 : Int32) (l4 : Int32) (l5 : Int32) (l6 : Int32) (l7 : Int32) (l8 : Int32) (l9 : Int32) (l10 : Int32) (l11 : Int32) (x12 : Value) (σ : xM) (y : Int32 × xM), K78 l0 l1 l2 l3 l4 l5 l6 l7 l8 l9 l10 l11 σ = some y → Rn (d + 5) 225 78 [.ref l0, .int l1, .int l2, .int l3, .int l4, .int l5, .int l6, .int l7, .int l8, .int l9, .int l10, .int l11, x12] [] σ (some (.int y.1), y.2)) (l0 : Nat) (l1 : Int32) (l2 : Int32) (l3 : Int32) (l4 : Int32) (l5 : Int32) (l6 : Int32) (l7 : Int32) (l8 : Int32) (l9 : Int32) (l10 : Int32) (l11 : Int32) (x12 : Value) (σ : xM) (y : Int32 × xM) (h : f225_147 K54 K78 l0 l1 l2 l3 l4 l5 l6 l7 l8 l9 l10 l11 σ = some y) : Rn (d + 5) 225 147 [.ref l0, .int l1, .int l2, .int l3, .int l4, .int l5, .int l6, .int l7, .int l8, .int l9, .int l10, .int l11, x12] [] σ (some (.int y.1), y.2) := by
  unfold f225_147 at h
  refine rn_steps 2 78 [.ref l0, .int l1, .int l2, .int l3, .int l4, .int l5, .int l6, .int l7, .int l8, .int l9, .int l10, .int (l11 + 1), x12] [] rfl ?_
  exact hK78 _ _ _ _ _ _ _ _ _ _ _ _ _ _ _ h
noncomputable def f225_122 (K54 : Nat → Int32 → Int32 → Int32 → Int32 → Int32 → Int32 → Int32 → xM → Option (Int32 × xM)) (K78 : Nat → Int32 → Int32 → Int32 → Int32 → Int32 → Int32 → Int32 → Int32 → Int32 → Int32 → Int32 → xM → Option (Int32 × xM)) (l0 : Nat) (l1 : Int32) (l2 : Int32) (l3 : Int32) (l4 : Int32) (l5 : Int32) (l6 : Int32) (l7 : Int32) (l8 : Int32) (l9 : Int32) (l11 : Int32) (l12 : Int32) (σ : xM) : Option (Int32 × xM) :=
  (f157 l5 (l12 - 1) σ).bind fun y1 =>
  if y1.1 = 0 then
  f225_147 K54 K78 l0 l1 l2 l3 l4 l5 l6 l7 l8 l9 y1.1 l11 y1.2
  else
  (cO y1.2 l0 9).bind fun u3 =>
  (f224 l0 l1 (l12 - 1) y1.2).bind fun y2 =>
  f225_147 K54 K78 l0 l1 l2 l3 l4 l5 l6 l7 l8 l9 y1.1 l11 y2
set_option maxRecDepth 20000 in
set_option maxHeartbeats 1000000 in
theorem e225_122 (d : Nat) (K54 : Nat → Int32 → Int32 → Int32 → Int32 → Int32 → Int32 → Int32 → xM → Option (Int32 × xM)) (hK54 : ∀ (l0 : Nat) (l1 : Int32) (l2 : Int32) (l3 : Int32) (l4 : Int32) (l5 : Int32) (l6 : Int32) (l7 : Int32) (x8 x9 x10 x11 x12 : Value) (σ : xM) (y : Int32 × xM), K54 l0 l1 l2 l3 l4 l5 l6 l7 σ = some y → Rn (d + 5) 225 54 [.ref l0, .int l1, .int l2, .int l3, .int l4, .int l5, .int l6, .int l7, x8, x9, x10, x11, x12] [] σ (some (.int y.1), y.2)) (K78 : Nat → Int32 → Int32 → Int32 → Int32 → Int32 → Int32 → Int32 → Int32 → Int32 → Int32 → Int32 → xM → Option (Int32 × xM)) (hK78 : ∀ (l0 : Nat) (l1 : Int32) (l2 : Int32) (l3 : Int32) (l4 : Int32) (l5 : Int32) (l6 : Int32) (l7 : Int32) (l8 : Int32) (l9 : Int32) (l10 : Int32) (l11 : Int32) (x12 : Value) (σ : xM) (y : Int32 × xM), K78 l0 l1 l2 l3 l4 l5 l6 l7 l8 l9 l10 l11 σ = some y → Rn (d + 5) 225 78 [.ref l0, .int l1, .int l2, .int l3, .int l4, .int l5, .int l6, .int l7, .int l8, .int l9, .int l10, .int l11, x12] [] σ (some (.int y.1), y.2)) (l0 : Nat) (l1 : Int32) (l2 : Int32) (l3 : Int32) (l4 : Int32) (l5 : Int32) (l6 : Int32) (l7 : Int32) (l8 : Int32) (l9 : Int32) (l11 : Int32) (l12 : Int32) (x10 : Value) (σ : xM) (y : Int32 × xM) (h : f225_122 K54 K78 l0 l1 l2 l3 l4 l5 l6 l7 l8 l9 l11 l12 σ = some y) : Rn (d + 5) 225 122 [.ref l0, .int l1, .int l2, .int l3, .int l4, .int l5, .int l6, .int l7, .int l8, .int l9, x10, .int l11, .int l12] [] σ (some (.int y.1), y.2) := by
  unfold f225_122 at h
  refine rn_steps 4 128 [.ref l0, .int l1, .int l2, .int l3, .int l4, .int l5, .int l6, .int l7, .int l8, .int l9, x10, .int l11, .int l12] [.int (l12 - 1), .int l5] rfl ?_
  obtain ⟨y1, hy1, h⟩ := Option.bind_eq_some_iff.mp h
  refine rn_callS [.int l5, .int (l12 - 1)] rfl rfl rfl ⟨rfl, rfl, rfl⟩ rfl rfl (e157 (d + 4) hy1) ?_
  refine rn_steps 2 135 [.ref l0, .int l1, .int l2, .int l3, .int l4, .int l5, .int l6, .int l7, .int l8, .int l9, .int y1.1, .int l11, .int l12] [.int y1.1] rfl ?_
  refine rn_br (c := y1.1 = 0) rfl rfl decide_eq_true_iff (fun hb => ?_) (fun hb => ?_)
  · rw [if_pos hb] at h
    refine rn_steps 0 147 [.ref l0, .int l1, .int l2, .int l3, .int l4, .int l5, .int l6, .int l7, .int l8, .int l9, .int y1.1, .int l11, .int l12] [] rfl ?_
    exact e225_147 d _ hK54 _ hK78 _ _ _ _ _ _ _ _ _ _ _ _ _ _ _ h
  · rw [if_neg hb] at h
    refine rn_steps 5 144 [.ref l0, .int l1, .int l2, .int l3, .int l4, .int l5, .int l6, .int l7, .int l8, .int l9, .int y1.1, .int l11, .int l12] [.int (l12 - 1), .int l1, .ref l0] rfl ?_
    obtain ⟨u3, hu3, h⟩ := Option.bind_eq_some_iff.mp h
    obtain ⟨y2, hy2, h⟩ := Option.bind_eq_some_iff.mp h
    refine rn_callV [.int l1, .int (l12 - 1)] rfl rfl ⟨rfl, rfl⟩ hu3 rfl rfl (e224 (d + 4) hy2) ?_
    refine rn_steps 0 147 [.ref l0, .int l1, .int l2, .int l3, .int l4, .int l5, .int l6, .int l7, .int l8, .int l9, .int y1.1, .int l11, .int l12] [] rfl ?_
    exact e225_147 d _ hK54 _ hK78 _ _ _ _ _ _ _ _ _ _ _ _ _ _ _ h
noncomputable def f225_78 (K54 : Nat → Int32 → Int32 → Int32 → Int32 → Int32 → Int32 → Int32 → xM → Option (Int32 × xM)) : Nat → Nat → Int32 → Int32 → Int32 → Int32 → Int32 → Int32 → Int32 → Int32 → Int32 → Int32 → Int32 → xM → Option (Int32 × xM)
  | 0, _, _, _, _, _, _, _, _, _, _, _, _, _ => none
  | n + 1, l0, l1, l2, l3, l4, l5, l6, l7, l8, l9, l10, l11, σ =>
    if l2 ≤ l11 then
    f225_153 K54 l0 l1 l2 l3 l4 l5 l6 l7 l9 l10 σ
    else
    if l10 = 0 then
    f225_153 K54 l0 l1 l2 l3 l4 l5 l6 l7 l9 l10 σ
    else
    (dI l8 l3).bind fun v1 =>
    (dI l7 v1).bind fun v2 =>
    (rI v2 l3).bind fun v3 =>
    if v3 = 0 then
    f225_147 K54 (f225_78 K54 n) l0 l1 l2 l3 l4 l5 l6 l7 v1 ((10 * l9) + v3) l10 l11 σ
    else
    f225_122 K54 (f225_78 K54 n) l0 l1 l2 l3 l4 l5 l6 l7 v1 ((10 * l9) + v3) l11 v3 σ
set_option maxRecDepth 20000 in
set_option maxHeartbeats 1000000 in
theorem e225_78 (d : Nat) (K54 : Nat → Int32 → Int32 → Int32 → Int32 → Int32 → Int32 → Int32 → xM → Option (Int32 × xM)) (hK54 : ∀ (l0 : Nat) (l1 : Int32) (l2 : Int32) (l3 : Int32) (l4 : Int32) (l5 : Int32) (l6 : Int32) (l7 : Int32) (x8 x9 x10 x11 x12 : Value) (σ : xM) (y : Int32 × xM), K54 l0 l1 l2 l3 l4 l5 l6 l7 σ = some y → Rn (d + 5) 225 54 [.ref l0, .int l1, .int l2, .int l3, .int l4, .int l5, .int l6, .int l7, x8, x9, x10, x11, x12] [] σ (some (.int y.1), y.2)) : ∀ (n : Nat) (l0 : Nat) (l1 : Int32) (l2 : Int32) (l3 : Int32) (l4 : Int32) (l5 : Int32) (l6 : Int32) (l7 : Int32) (l8 : Int32) (l9 : Int32) (l10 : Int32) (l11 : Int32) (x12 : Value) (σ : xM) (y : Int32 × xM), f225_78 K54 n l0 l1 l2 l3 l4 l5 l6 l7 l8 l9 l10 l11 σ = some y → Rn (d + 5) 225 78 [.ref l0, .int l1, .int l2, .int l3, .int l4, .int l5, .int l6, .int l7, .int l8, .int l9, .int l10, .int l11, x12] [] σ (some (.int y.1), y.2) := by
  intro n
  induction n with
  | zero => intro l0 l1 l2 l3 l4 l5 l6 l7 l8 l9 l10 l11 x12 σ y h; cases h
  | succ n ih =>
    intro l0 l1 l2 l3 l4 l5 l6 l7 l8 l9 l10 l11 x12 σ y h
    unfold f225_78 at h
    refine rn_steps 2 81 [.ref l0, .int l1, .int l2, .int l3, .int l4, .int l5, .int l6, .int l7, .int l8, .int l9, .int l10, .int l11, x12] [.int l2, .int l11] rfl ?_
    refine rn_br (c := l2 ≤ l11) rfl rfl decide_eq_true_iff (fun hb => ?_) (fun hb => ?_)
    · rw [if_pos hb] at h
      refine rn_steps 0 153 [.ref l0, .int l1, .int l2, .int l3, .int l4, .int l5, .int l6, .int l7, .int l8, .int l9, .int l10, .int l11, x12] [] rfl ?_
      exact e225_153 d _ hK54 _ _ _ _ _ _ _ _ _ _ _ _ _ _ _ h
    · rw [if_neg hb] at h
      refine rn_steps 1 86 [.ref l0, .int l1, .int l2, .int l3, .int l4, .int l5, .int l6, .int l7, .int l8, .int l9, .int l10, .int l11, x12] [.int l10] rfl ?_
      refine rn_br (c := l10 = 0) rfl rfl decide_eq_true_iff (fun hb => ?_) (fun hb => ?_)
      · rw [if_pos hb] at h
        refine rn_steps 0 153 [.ref l0, .int l1, .int l2, .int l3, .int l4, .int l5, .int l6, .int l7, .int l8, .int l9, .int l10, .int l11, x12] [] rfl ?_
        exact e225_153 d _ hK54 _ _ _ _ _ _ _ _ _ _ _ _ _ _ _ h
      · rw [if_neg hb] at h
        refine rn_steps 2 92 [.ref l0, .int l1, .int l2, .int l3, .int l4, .int l5, .int l6, .int l7, .int l8, .int l9, .int l10, .int l11, x12] [.int l3, .int l8] rfl ?_
        obtain ⟨v1, hv1, h⟩ := Option.bind_eq_some_iff.mp h
        refine rn_dI rfl hv1 ?_
        refine rn_steps 3 99 [.ref l0, .int l1, .int l2, .int l3, .int l4, .int l5, .int l6, .int l7, .int v1, .int l9, .int l10, .int l11, x12] [.int v1, .int l7] rfl ?_
        obtain ⟨v2, hv2, h⟩ := Option.bind_eq_some_iff.mp h
        refine rn_dI rfl hv2 ?_
        refine rn_steps 1 101 [.ref l0, .int l1, .int l2, .int l3, .int l4, .int l5, .int l6, .int l7, .int v1, .int l9, .int l10, .int l11, x12] [.int l3, .int v2] rfl ?_
        obtain ⟨v3, hv3, h⟩ := Option.bind_eq_some_iff.mp h
        refine rn_rI rfl hv3 ?_
        refine rn_steps 8 116 [.ref l0, .int l1, .int l2, .int l3, .int l4, .int l5, .int l6, .int l7, .int v1, .int ((10 * l9) + v3), .int l10, .int l11, .int v3] [.int v3] rfl ?_
        refine rn_br (c := ¬ v3 = 0) rfl rfl decide_eq_true_iff (fun hb => ?_) (fun hb => ?_)
        · rw [if_neg hb] at h
          refine rn_steps 0 122 [.ref l0, .int l1, .int l2, .int l3, .int l4, .int l5, .int l6, .int l7, .int v1, .int ((10 * l9) + v3), .int l10, .int l11, .int v3] [] rfl ?_
          exact e225_122 d _ hK54 _ ih _ _ _ _ _ _ _ _ _ _ _ _ _ _ _ h
        · rw [if_pos (Decidable.not_not.mp hb)] at h
          refine rn_steps 1 147 [.ref l0, .int l1, .int l2, .int l3, .int l4, .int l5, .int l6, .int l7, .int v1, .int ((10 * l9) + v3), .int l10, .int l11, .int v3] [] rfl ?_
          exact e225_147 d _ hK54 _ ih _ _ _ _ _ _ _ _ _ _ _ _ _ _ _ h
noncomputable def f225_54 : Nat → Nat → Int32 → Int32 → Int32 → Int32 → Int32 → Int32 → Int32 → xM → Option (Int32 × xM)
  | 0, _, _, _, _, _, _, _, _, _ => none
  | n + 1, l0, l1, l2, l3, l4, l5, l6, l7, σ =>
    if l4 ≤ l7 then
    f225_197 l6 σ
    else
    (cO σ l0 9).bind fun u2 =>
    (f188 l0 σ).bind fun y1 =>
    f225_78 (f225_54 n) 1100 l0 l1 l2 l3 l4 l5 l6 l7 l4 0 1 0 y1
set_option maxRecDepth 20000 in
set_option maxHeartbeats 1000000 in
theorem e225_54 (d : Nat) : ∀ (n : Nat) (l0 : Nat) (l1 : Int32) (l2 : Int32) (l3 : Int32) (l4 : Int32) (l5 : Int32) (l6 : Int32) (l7 : Int32) (x8 x9 x10 x11 x12 : Value) (σ : xM) (y : Int32 × xM), f225_54 n l0 l1 l2 l3 l4 l5 l6 l7 σ = some y → Rn (d + 5) 225 54 [.ref l0, .int l1, .int l2, .int l3, .int l4, .int l5, .int l6, .int l7, x8, x9, x10, x11, x12] [] σ (some (.int y.1), y.2) := by
  intro n
  induction n with
  | zero => intro l0 l1 l2 l3 l4 l5 l6 l7 x8 x9 x10 x11 x12 σ y h; cases h
  | succ n ih =>
    intro l0 l1 l2 l3 l4 l5 l6 l7 x8 x9 x10 x11 x12 σ y h
    unfold f225_54 at h
    refine rn_steps 2 58 [.ref l0, .int l1, .int l2, .int l3, .int l4, .int l5, .int l6, .int l7, x8, x9, x10, x11, x12] [.int l4, .int l7] rfl ?_
    refine rn_br (c := l4 ≤ l7) rfl rfl decide_eq_true_iff (fun hb => ?_) (fun hb => ?_)
    · rw [if_pos hb] at h
      refine rn_steps 0 197 [.ref l0, .int l1, .int l2, .int l3, .int l4, .int l5, .int l6, .int l7, x8, x9, x10, x11, x12] [] rfl ?_
      exact e225_197 d _ _ _ _ _ _ _ _ _ _ _ _ _ _ _ h
    · rw [if_neg hb] at h
      refine rn_steps 7 72 [.ref l0, .int l1, .int l2, .int l3, .int l4, .int l5, .int l6, .int l7, .int l4, .int 0, .int 1, x11, x12] [.ref l0] rfl ?_
      obtain ⟨u2, hu2, h⟩ := Option.bind_eq_some_iff.mp h
      obtain ⟨y1, hy1, h⟩ := Option.bind_eq_some_iff.mp h
      refine rn_callV [] rfl rfl ⟨rfl, rfl⟩ hu2 rfl rfl (e188 (d + 4) hy1) ?_
      refine rn_steps 2 78 [.ref l0, .int l1, .int l2, .int l3, .int l4, .int l5, .int l6, .int l7, .int l4, .int 0, .int 1, .int 0, x12] [] rfl ?_
      exact e225_78 d _ ih 1100 _ _ _ _ _ _ _ _ _ _ _ _ _ _ _ h
noncomputable def f225_51 (l0 : Nat) (l1 : Int32) (l2 : Int32) (l3 : Int32) (l4 : Int32) (l5 : Int32) (l6 : Int32) (σ : xM) : Option (Int32 × xM) :=
  f225_54 1100 l0 l1 l2 l3 l4 l5 l6 0 σ
set_option maxRecDepth 20000 in
set_option maxHeartbeats 1000000 in
theorem e225_51 (d : Nat) (l0 : Nat) (l1 : Int32) (l2 : Int32) (l3 : Int32) (l4 : Int32) (l5 : Int32) (l6 : Int32) (x7 x8 x9 x10 x11 x12 : Value) (σ : xM) (y : Int32 × xM) (h : f225_51 l0 l1 l2 l3 l4 l5 l6 σ = some y) : Rn (d + 5) 225 51 [.ref l0, .int l1, .int l2, .int l3, .int l4, .int l5, .int l6, x7, x8, x9, x10, x11, x12] [] σ (some (.int y.1), y.2) := by
  unfold f225_51 at h
  refine rn_steps 2 54 [.ref l0, .int l1, .int l2, .int l3, .int l4, .int l5, .int l6, .int 0, x8, x9, x10, x11, x12] [] rfl ?_
  exact e225_54 d 1100 _ _ _ _ _ _ _ _ _ _ _ _ _ _ _ h
noncomputable def f225_33 : Nat → Nat → Int32 → Int32 → Int32 → Int32 → Int32 → Int32 → Int32 → xM → Option (Int32 × xM)
  | 0, _, _, _, _, _, _, _, _, _ => none
  | n + 1, l0, l1, l2, l3, l4, l5, l6, l7, σ =>
    if l2 ≤ l7 then
    f225_51 l0 l1 l2 l3 l4 l5 l6 σ
    else
    (f225_33 n) l0 l1 l2 l3 (l4 * l3) l5 l6 (l7 + 1) σ
set_option maxRecDepth 20000 in
set_option maxHeartbeats 1000000 in
theorem e225_33 (d : Nat) : ∀ (n : Nat) (l0 : Nat) (l1 : Int32) (l2 : Int32) (l3 : Int32) (l4 : Int32) (l5 : Int32) (l6 : Int32) (l7 : Int32) (x8 x9 x10 x11 x12 : Value) (σ : xM) (y : Int32 × xM), f225_33 n l0 l1 l2 l3 l4 l5 l6 l7 σ = some y → Rn (d + 5) 225 33 [.ref l0, .int l1, .int l2, .int l3, .int l4, .int l5, .int l6, .int l7, x8, x9, x10, x11, x12] [] σ (some (.int y.1), y.2) := by
  intro n
  induction n with
  | zero => intro l0 l1 l2 l3 l4 l5 l6 l7 x8 x9 x10 x11 x12 σ y h; cases h
  | succ n ih =>
    intro l0 l1 l2 l3 l4 l5 l6 l7 x8 x9 x10 x11 x12 σ y h
    unfold f225_33 at h
    refine rn_steps 2 36 [.ref l0, .int l1, .int l2, .int l3, .int l4, .int l5, .int l6, .int l7, x8, x9, x10, x11, x12] [.int l2, .int l7] rfl ?_
    refine rn_br (c := l2 ≤ l7) rfl rfl decide_eq_true_iff (fun hb => ?_) (fun hb => ?_)
    · rw [if_pos hb] at h
      refine rn_steps 0 51 [.ref l0, .int l1, .int l2, .int l3, .int l4, .int l5, .int l6, .int l7, x8, x9, x10, x11, x12] [] rfl ?_
      exact e225_51 d _ _ _ _ _ _ _ _ _ _ _ _ _ _ _ h
    · rw [if_neg hb] at h
      refine rn_steps 6 33 [.ref l0, .int l1, .int l2, .int l3, .int (l4 * l3), .int l5, .int l6, .int (l7 + 1), x8, x9, x10, x11, x12] [] rfl ?_
      exact ih _ _ _ _ _ _ _ _ _ _ _ _ _ _ _ h
/-- LastAskedModel.bestRow(II)I -/
noncomputable def f225 (l0 : Nat) (l1 : Int32) (l2 : Int32) (σ : xM) : Option (Int32 × xM) :=
  (gR σ l0 9 3).bind fun r1 =>
  (gI σ r1 8 2).bind fun v2 =>
  (cO σ l0 9).bind fun u5 =>
  (f199 l0 l1 σ).bind fun y3 =>
  (pJ y3.2 l0 9 26 (-1)).bind fun σ4 =>
  f225_33 1100 l0 l1 l2 (v2 + 1) 1 y3.1 0 0 σ4
set_option maxRecDepth 20000 in
set_option maxHeartbeats 1000000 in
theorem e225 (d : Nat) {l0 : Nat} {l1 : Int32} {l2 : Int32} {σ : xM} {y : Int32 × xM} (h : f225 l0 l1 l2 σ = some y) : Rn (d + 5) 225 0 [.ref l0, .int l1, .int l2, .retAddr 0, .retAddr 0, .retAddr 0, .retAddr 0, .retAddr 0, .retAddr 0, .retAddr 0, .retAddr 0, .retAddr 0, .retAddr 0] [] σ (some (.int y.1), y.2) := by
  unfold f225 at h
  refine rn_steps 1 1 [.ref l0, .int l1, .int l2, .retAddr 0, .retAddr 0, .retAddr 0, .retAddr 0, .retAddr 0, .retAddr 0, .retAddr 0, .retAddr 0, .retAddr 0, .retAddr 0] [.ref l0] rfl ?_
  obtain ⟨r1, hr1, h⟩ := Option.bind_eq_some_iff.mp h
  refine rn_gR (c := 9) (f := 3) rfl rfl ⟨⟨rfl, rfl⟩, rfl⟩ hr1 ?_
  refine rn_steps 0 4 [.ref l0, .int l1, .int l2, .retAddr 0, .retAddr 0, .retAddr 0, .retAddr 0, .retAddr 0, .retAddr 0, .retAddr 0, .retAddr 0, .retAddr 0, .retAddr 0] [.ref r1] rfl ?_
  obtain ⟨v2, hv2, h⟩ := Option.bind_eq_some_iff.mp h
  refine rn_gI (c := 8) (f := 2) rfl rfl ⟨⟨rfl, rfl⟩, Or.inl rfl⟩ hv2 ?_
  refine rn_steps 7 15 [.ref l0, .int l1, .int l2, .int (v2 + 1), .int 1, .retAddr 0, .retAddr 0, .retAddr 0, .retAddr 0, .retAddr 0, .retAddr 0, .retAddr 0, .retAddr 0] [.int l1, .ref l0] rfl ?_
  obtain ⟨u5, hu5, h⟩ := Option.bind_eq_some_iff.mp h
  obtain ⟨y3, hy3, h⟩ := Option.bind_eq_some_iff.mp h
  refine rn_callV [.int l1] rfl rfl ⟨rfl, rfl⟩ hu5 rfl rfl (e199 (d + 2) hy3) ?_
  refine rn_steps 5 27 [.ref l0, .int l1, .int l2, .int (v2 + 1), .int 1, .int y3.1, .int 0, .retAddr 0, .retAddr 0, .retAddr 0, .retAddr 0, .retAddr 0, .retAddr 0] [.long (-1), .ref l0] rfl ?_
  obtain ⟨σ4, hσ4, h⟩ := Option.bind_eq_some_iff.mp h
  refine rn_pJ (c := 9) (f := 26) rfl rfl ⟨⟨rfl, rfl⟩, rfl⟩ hσ4 ?_
  refine rn_steps 2 33 [.ref l0, .int l1, .int l2, .int (v2 + 1), .int 1, .int y3.1, .int 0, .int 0, .retAddr 0, .retAddr 0, .retAddr 0, .retAddr 0, .retAddr 0] [] rfl ?_
  exact e225_33 d 1100 _ _ _ _ _ _ _ _ _ _ _ _ _ _ _ h
noncomputable def f226_45 (s0 : Int32) (σ : xM) : Option (Int32 × xM) :=
  some (s0, σ)
set_option maxRecDepth 20000 in
set_option maxHeartbeats 1000000 in
theorem e226_45 (d : Nat) (s0 : Int32) (x0 x1 x2 x3 x4 : Value) (σ : xM) (y : Int32 × xM) (h : f226_45 s0 σ = some y) : Rn (d + 1) 226 45 [x0, x1, x2, x3, x4] [.int s0] σ (some (.int y.1), y.2) := by
  unfold f226_45 at h
  cases h
  exact rn_ret rfl rfl rfl
/-- LastAskedModel.refusesNumber(IIII)I -/
noncomputable def f226 (l0 : Nat) (l1 : Int32) (l2 : Int32) (l3 : Int32) (l4 : Int32) (σ : xM) : Option (Int32 × xM) :=
  (cO σ l0 9).bind fun u6 =>
  (f186 l0 l1 σ).bind fun y1 =>
  if y1.1 = 0 then
  f226_45 1 y1.2
  else
  (f156 l2 l3 l4 y1.2).bind fun y2 =>
  if y2.1 = 0 then
  f226_45 2 y2.2
  else
  (gR y2.2 l0 9 16).bind fun r3 =>
  (aI y2.2 r3 42).bind fun v4 =>
  (f157 v4 l1 y2.2).bind fun y5 =>
  if y5.1 = 0 then
  f226_45 5 y5.2
  else
  f226_45 0 y5.2
set_option maxRecDepth 20000 in
set_option maxHeartbeats 1000000 in
theorem e226 (d : Nat) {l0 : Nat} {l1 : Int32} {l2 : Int32} {l3 : Int32} {l4 : Int32} {σ : xM} {y : Int32 × xM} (h : f226 l0 l1 l2 l3 l4 σ = some y) : Rn (d + 1) 226 0 [.ref l0, .int l1, .int l2, .int l3, .int l4] [] σ (some (.int y.1), y.2) := by
  unfold f226 at h
  refine rn_steps 2 2 [.ref l0, .int l1, .int l2, .int l3, .int l4] [.int l1, .ref l0] rfl ?_
  obtain ⟨u6, hu6, h⟩ := Option.bind_eq_some_iff.mp h
  obtain ⟨y1, hy1, h⟩ := Option.bind_eq_some_iff.mp h
  refine rn_callV [.int l1] rfl rfl ⟨rfl, rfl⟩ hu6 rfl rfl (e186 d hy1) ?_
  refine rn_steps 0 5 [.ref l0, .int l1, .int l2, .int l3, .int l4] [.int y1.1] rfl ?_
  refine rn_br (c := ¬ y1.1 = 0) rfl rfl decide_eq_true_iff (fun hb => ?_) (fun hb => ?_)
  · rw [if_neg hb] at h
    refine rn_steps 3 16 [.ref l0, .int l1, .int l2, .int l3, .int l4] [.int l4, .int l3, .int l2] rfl ?_
    obtain ⟨y2, hy2, h⟩ := Option.bind_eq_some_iff.mp h
    refine rn_callS [.int l2, .int l3, .int l4] rfl rfl rfl ⟨rfl, rfl, rfl⟩ rfl rfl (e156 d hy2) ?_
    refine rn_steps 0 19 [.ref l0, .int l1, .int l2, .int l3, .int l4] [.int y2.1] rfl ?_
    refine rn_br (c := ¬ y2.1 = 0) rfl rfl decide_eq_true_iff (fun hb => ?_) (fun hb => ?_)
    · rw [if_neg hb] at h
      refine rn_steps 1 27 [.ref l0, .int l1, .int l2, .int l3, .int l4] [.ref l0] rfl ?_
      obtain ⟨r3, hr3, h⟩ := Option.bind_eq_some_iff.mp h
      refine rn_gR (c := 9) (f := 16) rfl rfl ⟨⟨rfl, rfl⟩, rfl⟩ hr3 ?_
      refine rn_steps 1 32 [.ref l0, .int l1, .int l2, .int l3, .int l4] [.int 42, .ref r3] rfl ?_
      obtain ⟨v4, hv4, h⟩ := Option.bind_eq_some_iff.mp h
      refine rn_aI rfl hv4 ?_
      refine rn_steps 1 34 [.ref l0, .int l1, .int l2, .int l3, .int l4] [.int l1, .int v4] rfl ?_
      obtain ⟨y5, hy5, h⟩ := Option.bind_eq_some_iff.mp h
      refine rn_callS [.int v4, .int l1] rfl rfl rfl ⟨rfl, rfl, rfl⟩ rfl rfl (e157 d hy5) ?_
      refine rn_steps 0 37 [.ref l0, .int l1, .int l2, .int l3, .int l4] [.int y5.1] rfl ?_
      refine rn_br (c := y5.1 = 0) rfl rfl decide_eq_true_iff (fun hb => ?_) (fun hb => ?_)
      · rw [if_pos hb] at h
        refine rn_steps 1 45 [.ref l0, .int l1, .int l2, .int l3, .int l4] [.int 5] rfl ?_
        exact e226_45 d _ _ _ _ _ _ _ _ h
      · rw [if_neg hb] at h
        refine rn_steps 2 45 [.ref l0, .int l1, .int l2, .int l3, .int l4] [.int 0] rfl ?_
        exact e226_45 d _ _ _ _ _ _ _ _ h
    · rw [if_pos (Decidable.not_not.mp hb)] at h
      refine rn_steps 2 45 [.ref l0, .int l1, .int l2, .int l3, .int l4] [.int 2] rfl ?_
      exact e226_45 d _ _ _ _ _ _ _ _ h
  · rw [if_pos (Decidable.not_not.mp hb)] at h
    refine rn_steps 2 45 [.ref l0, .int l1, .int l2, .int l3, .int l4] [.int 1] rfl ?_
    exact e226_45 d _ _ _ _ _ _ _ _ h
noncomputable def f227_36 (s0 : Int32) (σ : xM) : Option (Int32 × xM) :=
  some (s0, σ)
set_option maxRecDepth 20000 in
set_option maxHeartbeats 1000000 in
theorem e227_36 (d : Nat) (s0 : Int32) (x0 x1 x2 x3 : Value) (σ : xM) (y : Int32 × xM) (h : f227_36 s0 σ = some y) : Rn (d + 6) 227 36 [x0, x1, x2, x3] [.int s0] σ (some (.int y.1), y.2) := by
  unfold f227_36 at h
  cases h
  exact rn_ret rfl rfl rfl
/-- LastAskedModel.best(II)I -/
noncomputable def f227 (l0 : Nat) (l1 : Int32) (l2 : Int32) (σ : xM) : Option (Int32 × xM) :=
  (pI σ l0 9 0 0).bind fun σ1 =>
  (cO σ1 l0 9).bind fun u9 =>
  (f226 l0 l1 l2 1 3 σ1).bind fun y2 =>
  if y2.1 ≤ 0 then
  (cO y2.2 l0 9).bind fun u6 =>
  (f225 l0 l1 l2 y2.2).bind fun y3 =>
  (cO y3.2 l0 9).bind fun u5 =>
  (f154 l0 y3.1 y3.2).bind fun y4 =>
  f227_36 y4.1 y4.2
  else
  (cO y2.2 l0 9).bind fun u8 =>
  (f151 l0 y2.1 y2.2).bind fun y7 =>
  f227_36 y7.1 y7.2
set_option maxRecDepth 20000 in
set_option maxHeartbeats 1000000 in
theorem e227 (d : Nat) {l0 : Nat} {l1 : Int32} {l2 : Int32} {σ : xM} {y : Int32 × xM} (h : f227 l0 l1 l2 σ = some y) : Rn (d + 6) 227 0 [.ref l0, .int l1, .int l2, .retAddr 0] [] σ (some (.int y.1), y.2) := by
  unfold f227 at h
  refine rn_steps 2 2 [.ref l0, .int l1, .int l2, .retAddr 0] [.int 0, .ref l0] rfl ?_
  obtain ⟨σ1, hσ1, h⟩ := Option.bind_eq_some_iff.mp h
  refine rn_pI (c := 9) (f := 0) rfl rfl ⟨⟨rfl, rfl⟩, rfl⟩ hσ1 ?_
  refine rn_steps 5 10 [.ref l0, .int l1, .int l2, .retAddr 0] [.int 3, .int 1, .int l2, .int l1, .ref l0] rfl ?_
  obtain ⟨u9, hu9, h⟩ := Option.bind_eq_some_iff.mp h
  obtain ⟨y2, hy2, h⟩ := Option.bind_eq_some_iff.mp h
  refine rn_callV [.int l1, .int l2, .int 1, .int 3] rfl rfl ⟨rfl, rfl⟩ hu9 rfl rfl (e226 (d + 4) hy2) ?_
  refine rn_steps 2 15 [.ref l0, .int l1, .int l2, .int y2.1] [.int y2.1] rfl ?_
  refine rn_br (c := y2.1 ≤ 0) rfl rfl decide_eq_true_iff (fun hb => ?_) (fun hb => ?_)
  · rw [if_pos hb] at h
    refine rn_steps 4 30 [.ref l0, .int l1, .int l2, .int y2.1] [.int l2, .int l1, .ref l0, .ref l0] rfl ?_
    obtain ⟨u6, hu6, h⟩ := Option.bind_eq_some_iff.mp h
    obtain ⟨y3, hy3, h⟩ := Option.bind_eq_some_iff.mp h
    refine rn_callV [.int l1, .int l2] rfl rfl ⟨rfl, rfl⟩ hu6 rfl rfl (e225 d hy3) ?_
    refine rn_steps 0 33 [.ref l0, .int l1, .int l2, .int y2.1] [.int y3.1, .ref l0] rfl ?_
    obtain ⟨u5, hu5, h⟩ := Option.bind_eq_some_iff.mp h
    obtain ⟨y4, hy4, h⟩ := Option.bind_eq_some_iff.mp h
    refine rn_callV [.int y3.1] rfl rfl ⟨rfl, rfl⟩ hu5 rfl rfl (e154 (d + 5) hy4) ?_
    refine rn_steps 0 36 [.ref l0, .int l1, .int l2, .int y2.1] [.int y4.1] rfl ?_
    exact e227_36 d _ _ _ _ _ _ _ h
  · rw [if_neg hb] at h
    refine rn_steps 2 20 [.ref l0, .int l1, .int l2, .int y2.1] [.int y2.1, .ref l0] rfl ?_
    obtain ⟨u8, hu8, h⟩ := Option.bind_eq_some_iff.mp h
    obtain ⟨y7, hy7, h⟩ := Option.bind_eq_some_iff.mp h
    refine rn_callV [.int y2.1] rfl rfl ⟨rfl, rfl⟩ hu8 rfl rfl (e151 (d + 5) hy7) ?_
    refine rn_steps 1 36 [.ref l0, .int l1, .int l2, .int y2.1] [.int y7.1] rfl ?_
    exact e227_36 d _ _ _ _ _ _ _ h
