noncomputable def f235_97 (l0 : Nat) (l3 : Int32) (σ : xM) : Option (Int32 × xM) :=
  (cO σ l0 9).bind fun u2 =>
  (f154 l0 l3 σ).bind fun y1 =>
  some (y1.1, y1.2)
set_option maxRecDepth 20000 in
set_option maxHeartbeats 1000000 in
theorem e235_97 (d : Nat) (l0 : Nat) (l3 : Int32) (x1 x2 x4 : Value) (σ : xM) (y : Int32 × xM) (h : f235_97 l0 l3 σ = some y) : Rn (d + 3) 235 97 [.ref l0, x1, x2, .int l3, x4] [] σ (some (.int y.1), y.2) := by
  unfold f235_97 at h
  refine rn_steps 2 99 [.ref l0, x1, x2, .int l3, x4] [.int l3, .ref l0] rfl ?_
  obtain ⟨u2, hu2, h⟩ := Option.bind_eq_some_iff.mp h
  obtain ⟨y1, hy1, h⟩ := Option.bind_eq_some_iff.mp h
  refine rn_callV [.int l3] rfl rfl ⟨rfl, rfl⟩ hu2 rfl rfl (e154 (d + 2) hy1) ?_
  refine rn_steps 0 102 [.ref l0, x1, x2, .int l3, x4] [.int y1.1] rfl ?_
  cases h
  exact rn_ret rfl rfl rfl
noncomputable def f235_91 (K35 : Nat → Int32 → Int32 → Int32 → Int32 → xM → Option (Int32 × xM)) (l0 : Nat) (l1 : Int32) (l2 : Int32) (l3 : Int32) (l4 : Int32) (σ : xM) : Option (Int32 × xM) :=
  K35 l0 l1 l2 l3 (l4 + 1) σ
set_option maxRecDepth 20000 in
set_option maxHeartbeats 1000000 in
theorem e235_91 (d : Nat) (K35 : Nat → Int32 → Int32 → Int32 → Int32 → xM → Option (Int32 × xM)) (hK35 : ∀ (l0 : Nat) (l1 : Int32) (l2 : Int32) (l3 : Int32) (l4 : Int32) (σ : xM) (y : Int32 × xM), K35 l0 l1 l2 l3 l4 σ = some y → Rn (d + 3) 235 35 [.ref l0, .int l1, .int l2, .int l3, .int l4] [] σ (some (.int y.1), y.2)) (l0 : Nat) (l1 : Int32) (l2 : Int32) (l3 : Int32) (l4 : Int32) (σ : xM) (y : Int32 × xM) (h : f235_91 K35 l0 l1 l2 l3 l4 σ = some y) : Rn (d + 3) 235 91 [.ref l0, .int l1, .int l2, .int l3, .int l4] [] σ (some (.int y.1), y.2) := by
  unfold f235_91 at h
  refine rn_steps 2 35 [.ref l0, .int l1, .int l2, .int l3, .int (l4 + 1)] [] rfl ?_
  exact hK35 _ _ _ _ _ _ _ h
noncomputable def f235_88 (K35 : Nat → Int32 → Int32 → Int32 → Int32 → xM → Option (Int32 × xM)) (l0 : Nat) (l1 : Int32) (l2 : Int32) (l4 : Int32) (σ : xM) : Option (Int32 × xM) :=
  f235_91 K35 l0 l1 l2 l4 l4 σ
set_option maxRecDepth 20000 in
set_option maxHeartbeats 1000000 in
theorem e235_88 (d : Nat) (K35 : Nat → Int32 → Int32 → Int32 → Int32 → xM → Option (Int32 × xM)) (hK35 : ∀ (l0 : Nat) (l1 : Int32) (l2 : Int32) (l3 : Int32) (l4 : Int32) (σ : xM) (y : Int32 × xM), K35 l0 l1 l2 l3 l4 σ = some y → Rn (d + 3) 235 35 [.ref l0, .int l1, .int l2, .int l3, .int l4] [] σ (some (.int y.1), y.2)) (l0 : Nat) (l1 : Int32) (l2 : Int32) (l4 : Int32) (x3 : Value) (σ : xM) (y : Int32 × xM) (h : f235_88 K35 l0 l1 l2 l4 σ = some y) : Rn (d + 3) 235 88 [.ref l0, .int l1, .int l2, x3, .int l4] [] σ (some (.int y.1), y.2) := by
  unfold f235_88 at h
  refine rn_steps 2 91 [.ref l0, .int l1, .int l2, .int l4, .int l4] [] rfl ?_
  exact e235_91 d _ hK35 _ _ _ _ _ _ _ h
noncomputable def f235_35 : Nat → Nat → Int32 → Int32 → Int32 → Int32 → xM → Option (Int32 × xM)
  | 0, _, _, _, _, _, _ => none
  | n + 1, l0, l1, l2, l3, l4, σ =>
    (gR σ l0 9 3).bind fun r1 =>
    (gI σ r1 8 2).bind fun v2 =>
    if v2 ≤ l4 then
    f235_97 l0 l3 σ
    else
    (f157 l2 l4 σ).bind fun y3 =>
    if y3.1 = 0 then
    f235_91 (f235_35 n) l0 l1 l2 l3 l4 y3.2
    else
    (cO y3.2 l0 9).bind fun u9 =>
    (f192 l0 l4 y3.2).bind fun y4 =>
    if y4.1 = l1 then
    f235_91 (f235_35 n) l0 l1 l2 l3 l4 y4.2
    else
    if l3 = (-2) then
    f235_88 (f235_35 n) l0 l1 l2 l4 y4.2
    else
    (gR y4.2 l0 9 16).bind fun r5 =>
    (aI y4.2 r5 l4).bind fun v6 =>
    (gR y4.2 l0 9 16).bind fun r7 =>
    (aI y4.2 r7 l3).bind fun v8 =>
    if v6 ≤ v8 then
    f235_91 (f235_35 n) l0 l1 l2 l3 l4 y4.2
    else
    f235_88 (f235_35 n) l0 l1 l2 l4 y4.2
set_option maxRecDepth 20000 in
set_option maxHeartbeats 1000000 in
theorem e235_35 (d : Nat) : ∀ (n : Nat) (l0 : Nat) (l1 : Int32) (l2 : Int32) (l3 : Int32) (l4 : Int32) (σ : xM) (y : Int32 × xM), f235_35 n l0 l1 l2 l3 l4 σ = some y → Rn (d + 3) 235 35 [.ref l0, .int l1, .int l2, .int l3, .int l4] [] σ (some (.int y.1), y.2) := by
  intro n
  induction n with
  | zero => intro l0 l1 l2 l3 l4 σ y h; cases h
  | succ n ih =>
    intro l0 l1 l2 l3 l4 σ y h
    unfold f235_35 at h
    refine rn_steps 2 38 [.ref l0, .int l1, .int l2, .int l3, .int l4] [.ref l0, .int l4] rfl ?_
    obtain ⟨r1, hr1, h⟩ := Option.bind_eq_some_iff.mp h
    refine rn_gR (c := 9) (f := 3) rfl rfl ⟨⟨rfl, rfl⟩, rfl⟩ hr1 ?_
    refine rn_steps 0 41 [.ref l0, .int l1, .int l2, .int l3, .int l4] [.ref r1, .int l4] rfl ?_
    obtain ⟨v2, hv2, h⟩ := Option.bind_eq_some_iff.mp h
    refine rn_gI (c := 8) (f := 2) rfl rfl ⟨⟨rfl, rfl⟩, Or.inl rfl⟩ hv2 ?_
    refine rn_steps 0 44 [.ref l0, .int l1, .int l2, .int l3, .int l4] [.int v2, .int l4] rfl ?_
    refine rn_br (c := v2 ≤ l4) rfl rfl decide_eq_true_iff (fun hb => ?_) (fun hb => ?_)
    · rw [if_pos hb] at h
      refine rn_steps 0 97 [.ref l0, .int l1, .int l2, .int l3, .int l4] [] rfl ?_
      exact e235_97 d _ _ _ _ _ _ _ h
    · rw [if_neg hb] at h
      refine rn_steps 2 50 [.ref l0, .int l1, .int l2, .int l3, .int l4] [.int l4, .int l2] rfl ?_
      obtain ⟨y3, hy3, h⟩ := Option.bind_eq_some_iff.mp h
      refine rn_callS [.int l2, .int l4] rfl rfl rfl ⟨rfl, rfl, rfl⟩ rfl rfl (e157 (d + 2) hy3) ?_
      refine rn_steps 0 53 [.ref l0, .int l1, .int l2, .int l3, .int l4] [.int y3.1] rfl ?_
      refine rn_br (c := y3.1 = 0) rfl rfl decide_eq_true_iff (fun hb => ?_) (fun hb => ?_)
      · rw [if_pos hb] at h
        refine rn_steps 0 91 [.ref l0, .int l1, .int l2, .int l3, .int l4] [] rfl ?_
        exact e235_91 d _ ih _ _ _ _ _ _ _ h
      · rw [if_neg hb] at h
        refine rn_steps 2 59 [.ref l0, .int l1, .int l2, .int l3, .int l4] [.int l4, .ref l0] rfl ?_
        obtain ⟨u9, hu9, h⟩ := Option.bind_eq_some_iff.mp h
        obtain ⟨y4, hy4, h⟩ := Option.bind_eq_some_iff.mp h
        refine rn_callV [.int l4] rfl rfl ⟨rfl, rfl⟩ hu9 rfl rfl (e192 d hy4) ?_
        refine rn_steps 1 63 [.ref l0, .int l1, .int l2, .int l3, .int l4] [.int l1, .int y4.1] rfl ?_
        refine rn_br (c := y4.1 = l1) rfl rfl decide_eq_true_iff (fun hb => ?_) (fun hb => ?_)
        · rw [if_pos hb] at h
          refine rn_steps 0 91 [.ref l0, .int l1, .int l2, .int l3, .int l4] [] rfl ?_
          exact e235_91 d _ ih _ _ _ _ _ _ _ h
        · rw [if_neg hb] at h
          refine rn_steps 2 69 [.ref l0, .int l1, .int l2, .int l3, .int l4] [.int (-2), .int l3] rfl ?_
          refine rn_br (c := l3 = (-2)) rfl rfl decide_eq_true_iff (fun hb => ?_) (fun hb => ?_)
          · rw [if_pos hb] at h
            refine rn_steps 0 88 [.ref l0, .int l1, .int l2, .int l3, .int l4] [] rfl ?_
            exact e235_88 d _ ih _ _ _ _ _ _ _ h
          · rw [if_neg hb] at h
            refine rn_steps 1 73 [.ref l0, .int l1, .int l2, .int l3, .int l4] [.ref l0] rfl ?_
            obtain ⟨r5, hr5, h⟩ := Option.bind_eq_some_iff.mp h
            refine rn_gR (c := 9) (f := 16) rfl rfl ⟨⟨rfl, rfl⟩, rfl⟩ hr5 ?_
            refine rn_steps 1 78 [.ref l0, .int l1, .int l2, .int l3, .int l4] [.int l4, .ref r5] rfl ?_
            obtain ⟨v6, hv6, h⟩ := Option.bind_eq_some_iff.mp h
            refine rn_aI rfl hv6 ?_
            refine rn_steps 1 80 [.ref l0, .int l1, .int l2, .int l3, .int l4] [.ref l0, .int v6] rfl ?_
            obtain ⟨r7, hr7, h⟩ := Option.bind_eq_some_iff.mp h
            refine rn_gR (c := 9) (f := 16) rfl rfl ⟨⟨rfl, rfl⟩, rfl⟩ hr7 ?_
            refine rn_steps 1 84 [.ref l0, .int l1, .int l2, .int l3, .int l4] [.int l3, .ref r7, .int v6] rfl ?_
            obtain ⟨v8, hv8, h⟩ := Option.bind_eq_some_iff.mp h
            refine rn_aI rfl hv8 ?_
            refine rn_steps 0 85 [.ref l0, .int l1, .int l2, .int l3, .int l4] [.int v8, .int v6] rfl ?_
            refine rn_br (c := v6 ≤ v8) rfl rfl decide_eq_true_iff (fun hb => ?_) (fun hb => ?_)
            · rw [if_pos hb] at h
              refine rn_steps 0 91 [.ref l0, .int l1, .int l2, .int l3, .int l4] [] rfl ?_
              exact e235_91 d _ ih _ _ _ _ _ _ _ h
            · rw [if_neg hb] at h
              refine rn_steps 0 88 [.ref l0, .int l1, .int l2, .int l3, .int l4] [] rfl ?_
              exact e235_88 d _ ih _ _ _ _ _ _ _ h
/-- LastAskedModel.toAsk(I)I -/
noncomputable def f235 (l0 : Nat) (l1 : Int32) (σ : xM) : Option (Int32 × xM) :=
  (pI σ l0 9 0 0).bind fun σ1 =>
  (cO σ1 l0 9).bind fun u9 =>
  (f186 l0 l1 σ1).bind fun y2 =>
  if y2.1 = 0 then
  (cO y2.2 l0 9).bind fun u8 =>
  (f151 l0 1 y2.2).bind fun y7 =>
  some (y7.1, y7.2)
  else
  (cO y2.2 l0 9).bind fun u6 =>
  (f188 l0 y2.2).bind fun y3 =>
  (cO y3 l0 9).bind fun u5 =>
  (f199 l0 l1 y3).bind fun y4 =>
  f235_35 1100 l0 l1 y4.1 (-2) 0 y4.2
set_option maxRecDepth 20000 in
set_option maxHeartbeats 1000000 in
theorem e235 (d : Nat) {l0 : Nat} {l1 : Int32} {σ : xM} {y : Int32 × xM} (h : f235 l0 l1 σ = some y) : Rn (d + 3) 235 0 [.ref l0, .int l1, .retAddr 0, .retAddr 0, .retAddr 0] [] σ (some (.int y.1), y.2) := by
  unfold f235 at h
  refine rn_steps 2 2 [.ref l0, .int l1, .retAddr 0, .retAddr 0, .retAddr 0] [.int 0, .ref l0] rfl ?_
  obtain ⟨σ1, hσ1, h⟩ := Option.bind_eq_some_iff.mp h
  refine rn_pI (c := 9) (f := 0) rfl rfl ⟨⟨rfl, rfl⟩, rfl⟩ hσ1 ?_
  refine rn_steps 2 7 [.ref l0, .int l1, .retAddr 0, .retAddr 0, .retAddr 0] [.int l1, .ref l0] rfl ?_
  obtain ⟨u9, hu9, h⟩ := Option.bind_eq_some_iff.mp h
  obtain ⟨y2, hy2, h⟩ := Option.bind_eq_some_iff.mp h
  refine rn_callV [.int l1] rfl rfl ⟨rfl, rfl⟩ hu9 rfl rfl (e186 (d + 2) hy2) ?_
  refine rn_steps 0 10 [.ref l0, .int l1, .retAddr 0, .retAddr 0, .retAddr 0] [.int y2.1] rfl ?_
  refine rn_br (c := ¬ y2.1 = 0) rfl rfl decide_eq_true_iff (fun hb => ?_) (fun hb => ?_)
  · rw [if_neg hb] at h
    refine rn_steps 1 20 [.ref l0, .int l1, .retAddr 0, .retAddr 0, .retAddr 0] [.ref l0] rfl ?_
    obtain ⟨u6, hu6, h⟩ := Option.bind_eq_some_iff.mp h
    obtain ⟨y3, hy3, h⟩ := Option.bind_eq_some_iff.mp h
    refine rn_callV [] rfl rfl ⟨rfl, rfl⟩ hu6 rfl rfl (e188 (d + 2) hy3) ?_
    refine rn_steps 2 25 [.ref l0, .int l1, .retAddr 0, .retAddr 0, .retAddr 0] [.int l1, .ref l0] rfl ?_
    obtain ⟨u5, hu5, h⟩ := Option.bind_eq_some_iff.mp h
    obtain ⟨y4, hy4, h⟩ := Option.bind_eq_some_iff.mp h
    refine rn_callV [.int l1] rfl rfl ⟨rfl, rfl⟩ hu5 rfl rfl (e199 d hy4) ?_
    refine rn_steps 5 35 [.ref l0, .int l1, .int y4.1, .int (-2), .int 0] [] rfl ?_
    exact e235_35 d 1100 _ _ _ _ _ _ _ h
  · rw [if_pos (Decidable.not_not.mp hb)] at h
    refine rn_steps 2 15 [.ref l0, .int l1, .retAddr 0, .retAddr 0, .retAddr 0] [.int 1, .ref l0] rfl ?_
    obtain ⟨u8, hu8, h⟩ := Option.bind_eq_some_iff.mp h
    obtain ⟨y7, hy7, h⟩ := Option.bind_eq_some_iff.mp h
    refine rn_callV [.int 1] rfl rfl ⟨rfl, rfl⟩ hu8 rfl rfl (e151 (d + 2) hy7) ?_
    refine rn_steps 0 18 [.ref l0, .int l1, .retAddr 0, .retAddr 0, .retAddr 0] [.int y7.1] rfl ?_
    cases h
    exact rn_ret rfl rfl rfl
