noncomputable def f76_28 (l0 : Nat) (l1 : Int32) (l2 : Int32) (s0 : Int32) (s1 : Nat) (σ : xM) : Option (Int32 × xM) :=
  (cO σ s1 7).bind fun u6 =>
  (f114 s1 s0 σ).bind fun y1 =>
  if y1.1 = 0 then
  (cO y1.2 l0 7).bind fun u5 =>
  (f129 l0 y1.2).bind fun y2 =>
  (cO y2.2 l0 7).bind fun u4 =>
  (f131 l0 l1 l2 y2.2).bind fun y3 =>
  some (y3.1, y3.2)
  else
  some ((-1), y1.2)
set_option maxRecDepth 20000 in
set_option maxHeartbeats 1000000 in
theorem e76_28 (d : Nat) (l0 : Nat) (l1 : Int32) (l2 : Int32) (s0 : Int32) (s1 : Nat) (x3 : Value) (σ : xM) (y : Int32 × xM) (h : f76_28 l0 l1 l2 s0 s1 σ = some y) : Rn (d + 4) 76 28 [.ref l0, .int l1, .int l2, x3] [.int s0, .ref s1] σ (some (.int y.1), y.2) := by
  unfold f76_28 at h
  obtain ⟨u6, hu6, h⟩ := Option.bind_eq_some_iff.mp h
  obtain ⟨y1, hy1, h⟩ := Option.bind_eq_some_iff.mp h
  refine rn_callV [.int s0] rfl rfl ⟨rfl, rfl⟩ hu6 rfl rfl (e114 (d + 3) hy1) ?_
  refine rn_steps 0 31 [.ref l0, .int l1, .int l2, x3] [.int y1.1] rfl ?_
  refine rn_br (c := y1.1 = 0) rfl rfl decide_eq_true_iff (fun hb => ?_) (fun hb => ?_)
  · rw [if_pos hb] at h
    refine rn_steps 1 37 [.ref l0, .int l1, .int l2, x3] [.ref l0] rfl ?_
    obtain ⟨u5, hu5, h⟩ := Option.bind_eq_some_iff.mp h
    obtain ⟨y2, hy2, h⟩ := Option.bind_eq_some_iff.mp h
    refine rn_callV [] rfl rfl ⟨rfl, rfl⟩ hu5 rfl rfl (e129 d hy2) ?_
    refine rn_steps 4 44 [.ref l0, .int l1, .int l2, x3] [.int l2, .int l1, .ref l0] rfl ?_
    obtain ⟨u4, hu4, h⟩ := Option.bind_eq_some_iff.mp h
    obtain ⟨y3, hy3, h⟩ := Option.bind_eq_some_iff.mp h
    refine rn_callV [.int l1, .int l2] rfl rfl ⟨rfl, rfl⟩ hu4 rfl rfl (e131 (d + 1) hy3) ?_
    refine rn_steps 0 47 [.ref l0, .int l1, .int l2, x3] [.int y3.1] rfl ?_
    cases h
    exact rn_ret rfl rfl rfl
  · rw [if_neg hb] at h
    refine rn_steps 1 35 [.ref l0, .int l1, .int l2, x3] [.int (-1)] rfl ?_
    cases h
    exact rn_ret rfl rfl rfl
/-- LastAsked.hasThen(II)I -/
noncomputable def f76 (l0 : Nat) (l1 : Int32) (l2 : Int32) (σ : xM) : Option (Int32 × xM) :=
  (cO σ l0 7).bind fun u4 =>
  (f119 l0 l1 σ).bind fun y1 =>
  if y1.1 = 0 then
  (cO y1.2 l0 7).bind fun u3 =>
  (f118 l0 l2 y1.2).bind fun y2 =>
  if y2.1 = 0 then
  f76_28 l0 l1 l2 2 l0 y2.2
  else
  f76_28 l0 l1 l2 0 l0 y2.2
  else
  f76_28 l0 l1 l2 y1.1 l0 y1.2
set_option maxRecDepth 20000 in
set_option maxHeartbeats 1000000 in
theorem e76 (d : Nat) {l0 : Nat} {l1 : Int32} {l2 : Int32} {σ : xM} {y : Int32 × xM} (h : f76 l0 l1 l2 σ = some y) : Rn (d + 4) 76 0 [.ref l0, .int l1, .int l2, .retAddr 0] [] σ (some (.int y.1), y.2) := by
  unfold f76 at h
  refine rn_steps 2 2 [.ref l0, .int l1, .int l2, .retAddr 0] [.int l1, .ref l0] rfl ?_
  obtain ⟨u4, hu4, h⟩ := Option.bind_eq_some_iff.mp h
  obtain ⟨y1, hy1, h⟩ := Option.bind_eq_some_iff.mp h
  refine rn_callV [.int l1] rfl rfl ⟨rfl, rfl⟩ hu4 rfl rfl (e119 (d + 1) hy1) ?_
  refine rn_steps 3 8 [.ref l0, .int l1, .int l2, .int y1.1] [.int y1.1, .ref l0] rfl ?_
  refine rn_br (c := y1.1 = 0) rfl rfl decide_eq_true_iff (fun hb => ?_) (fun hb => ?_)
  · rw [if_pos hb] at h
    refine rn_steps 2 17 [.ref l0, .int l1, .int l2, .int y1.1] [.int l2, .ref l0, .ref l0] rfl ?_
    obtain ⟨u3, hu3, h⟩ := Option.bind_eq_some_iff.mp h
    obtain ⟨y2, hy2, h⟩ := Option.bind_eq_some_iff.mp h
    refine rn_callV [.int l2] rfl rfl ⟨rfl, rfl⟩ hu3 rfl rfl (e118 (d + 3) hy2) ?_
    refine rn_steps 0 20 [.ref l0, .int l1, .int l2, .int y1.1] [.int y2.1, .ref l0] rfl ?_
    refine rn_br (c := y2.1 = 0) rfl rfl decide_eq_true_iff (fun hb => ?_) (fun hb => ?_)
    · rw [if_pos hb] at h
      refine rn_steps 1 28 [.ref l0, .int l1, .int l2, .int y1.1] [.int 2, .ref l0] rfl ?_
      exact e76_28 d _ _ _ _ _ _ _ _ h
    · rw [if_neg hb] at h
      refine rn_steps 2 28 [.ref l0, .int l1, .int l2, .int y1.1] [.int 0, .ref l0] rfl ?_
      exact e76_28 d _ _ _ _ _ _ _ _ h
  · rw [if_neg hb] at h
    refine rn_steps 2 28 [.ref l0, .int l1, .int l2, .int y1.1] [.int y1.1, .ref l0] rfl ?_
    exact e76_28 d _ _ _ _ _ _ _ _ h
noncomputable def f77_88 (l2 : Int32) (σ : xM) : Option (Int32 × xM) :=
  some (l2, σ)
set_option maxRecDepth 20000 in
set_option maxHeartbeats 1000000 in
theorem e77_88 (d : Nat) (l2 : Int32) (x0 x1 x3 : Value) (σ : xM) (y : Int32 × xM) (h : f77_88 l2 σ = some y) : Rn (d + 4) 77 88 [x0, x1, .int l2, x3] [] σ (some (.int y.1), y.2) := by
  unfold f77_88 at h
  refine rn_steps 1 89 [x0, x1, .int l2, x3] [.int l2] rfl ?_
  cases h
  exact rn_ret rfl rfl rfl
noncomputable def f77_82 (K42 : Nat → Int32 → Int32 → Int32 → xM → Option (Int32 × xM)) (l0 : Nat) (l1 : Int32) (l2 : Int32) (l3 : Int32) (σ : xM) : Option (Int32 × xM) :=
  K42 l0 l1 l2 (l3 + 1) σ
set_option maxRecDepth 20000 in
set_option maxHeartbeats 1000000 in
theorem e77_82 (d : Nat) (K42 : Nat → Int32 → Int32 → Int32 → xM → Option (Int32 × xM)) (hK42 : ∀ (l0 : Nat) (l1 : Int32) (l2 : Int32) (l3 : Int32) (σ : xM) (y : Int32 × xM), K42 l0 l1 l2 l3 σ = some y → Rn (d + 4) 77 42 [.ref l0, .int l1, .int l2, .int l3] [] σ (some (.int y.1), y.2)) (l0 : Nat) (l1 : Int32) (l2 : Int32) (l3 : Int32) (σ : xM) (y : Int32 × xM) (h : f77_82 K42 l0 l1 l2 l3 σ = some y) : Rn (d + 4) 77 82 [.ref l0, .int l1, .int l2, .int l3] [] σ (some (.int y.1), y.2) := by
  unfold f77_82 at h
  refine rn_steps 2 42 [.ref l0, .int l1, .int l2, .int (l3 + 1)] [] rfl ?_
  exact hK42 _ _ _ _ _ _ h
noncomputable def f77_42 : Nat → Nat → Int32 → Int32 → Int32 → xM → Option (Int32 × xM)
  | 0, _, _, _, _, _ => none
  | n + 1, l0, l1, l2, l3, σ =>
    if 6 ≤ l3 then
    f77_88 l2 σ
    else
    (f124 l1 l3 σ).bind fun y1 =>
    if y1.1 = 0 then
    f77_82 (f77_42 n) l0 l1 l2 l3 y1.2
    else
    (gR y1.2 l0 7 5).bind fun r2 =>
    (cO y1.2 r2 6).bind fun u7 =>
    (f59 r2 l3 l1 y1.2).bind fun y3 =>
    if y3.1 = (-2) then
    (gR y3.2 l0 7 2).bind fun r4 =>
    (gR y3.2 r4 4 5).bind fun r5 =>
    (aI y3.2 r5 l3).bind fun v6 =>
    f77_82 (f77_42 n) l0 l1 (l2 + v6) l3 y3.2
    else
    f77_82 (f77_42 n) l0 l1 l2 l3 y3.2
set_option maxRecDepth 20000 in
set_option maxHeartbeats 1000000 in
theorem e77_42 (d : Nat) : ∀ (n : Nat) (l0 : Nat) (l1 : Int32) (l2 : Int32) (l3 : Int32) (σ : xM) (y : Int32 × xM), f77_42 n l0 l1 l2 l3 σ = some y → Rn (d + 4) 77 42 [.ref l0, .int l1, .int l2, .int l3] [] σ (some (.int y.1), y.2) := by
  intro n
  induction n with
  | zero => intro l0 l1 l2 l3 σ y h; cases h
  | succ n ih =>
    intro l0 l1 l2 l3 σ y h
    unfold f77_42 at h
    refine rn_steps 2 45 [.ref l0, .int l1, .int l2, .int l3] [.int 6, .int l3] rfl ?_
    refine rn_br (c := 6 ≤ l3) rfl rfl decide_eq_true_iff (fun hb => ?_) (fun hb => ?_)
    · rw [if_pos hb] at h
      refine rn_steps 0 88 [.ref l0, .int l1, .int l2, .int l3] [] rfl ?_
      exact e77_88 d _ _ _ _ _ _ h
    · rw [if_neg hb] at h
      refine rn_steps 2 50 [.ref l0, .int l1, .int l2, .int l3] [.int l3, .int l1] rfl ?_
      obtain ⟨y1, hy1, h⟩ := Option.bind_eq_some_iff.mp h
      refine rn_callS [.int l1, .int l3] rfl rfl rfl ⟨rfl, rfl, rfl⟩ rfl rfl (e124 (d + 3) hy1) ?_
      refine rn_steps 0 53 [.ref l0, .int l1, .int l2, .int l3] [.int y1.1] rfl ?_
      refine rn_br (c := y1.1 = 0) rfl rfl decide_eq_true_iff (fun hb => ?_) (fun hb => ?_)
      · rw [if_pos hb] at h
        refine rn_steps 0 82 [.ref l0, .int l1, .int l2, .int l3] [] rfl ?_
        exact e77_82 d _ ih _ _ _ _ _ _ h
      · rw [if_neg hb] at h
        refine rn_steps 1 57 [.ref l0, .int l1, .int l2, .int l3] [.ref l0] rfl ?_
        obtain ⟨r2, hr2, h⟩ := Option.bind_eq_some_iff.mp h
        refine rn_gR (c := 7) (f := 5) rfl rfl ⟨⟨rfl, rfl⟩, rfl⟩ hr2 ?_
        refine rn_steps 2 62 [.ref l0, .int l1, .int l2, .int l3] [.int l1, .int l3, .ref r2] rfl ?_
        obtain ⟨u7, hu7, h⟩ := Option.bind_eq_some_iff.mp h
        obtain ⟨y3, hy3, h⟩ := Option.bind_eq_some_iff.mp h
        refine rn_callV [.int l3, .int l1] rfl rfl ⟨rfl, rfl⟩ hu7 rfl rfl (e59 (d + 2) hy3) ?_
        refine rn_steps 1 67 [.ref l0, .int l1, .int l2, .int l3] [.int (-2), .int y3.1] rfl ?_
        refine rn_br (c := ¬ y3.1 = (-2)) rfl rfl decide_eq_true_iff (fun hb => ?_) (fun hb => ?_)
        · rw [if_neg hb] at h
          refine rn_steps 0 82 [.ref l0, .int l1, .int l2, .int l3] [] rfl ?_
          exact e77_82 d _ ih _ _ _ _ _ _ h
        · rw [if_pos (Decidable.not_not.mp hb)] at h
          refine rn_steps 2 72 [.ref l0, .int l1, .int l2, .int l3] [.ref l0, .int l2] rfl ?_
          obtain ⟨r4, hr4, h⟩ := Option.bind_eq_some_iff.mp h
          refine rn_gR (c := 7) (f := 2) rfl rfl ⟨⟨rfl, rfl⟩, rfl⟩ hr4 ?_
          refine rn_steps 0 75 [.ref l0, .int l1, .int l2, .int l3] [.ref r4, .int l2] rfl ?_
          obtain ⟨r5, hr5, h⟩ := Option.bind_eq_some_iff.mp h
          refine rn_gR (c := 4) (f := 5) rfl rfl ⟨⟨rfl, rfl⟩, rfl⟩ hr5 ?_
          refine rn_steps 1 79 [.ref l0, .int l1, .int l2, .int l3] [.int l3, .ref r5, .int l2] rfl ?_
          obtain ⟨v6, hv6, h⟩ := Option.bind_eq_some_iff.mp h
          refine rn_aI rfl hv6 ?_
          refine rn_steps 2 82 [.ref l0, .int l1, .int (l2 + v6), .int l3] [] rfl ?_
          exact e77_82 d _ ih _ _ _ _ _ _ h
noncomputable def f77_25 (l0 : Nat) (l1 : Int32) (s0 : Int32) (s1 : Nat) (σ : xM) : Option (Int32 × xM) :=
  (cO σ s1 7).bind fun u4 =>
  (f114 s1 s0 σ).bind fun y1 =>
  if y1.1 = 0 then
  (cO y1.2 l0 7).bind fun u3 =>
  (f129 l0 y1.2).bind fun y2 =>
  f77_42 1100 l0 l1 0 0 y2.2
  else
  some ((-1), y1.2)
set_option maxRecDepth 20000 in
set_option maxHeartbeats 1000000 in
theorem e77_25 (d : Nat) (l0 : Nat) (l1 : Int32) (s0 : Int32) (s1 : Nat) (x2 x3 : Value) (σ : xM) (y : Int32 × xM) (h : f77_25 l0 l1 s0 s1 σ = some y) : Rn (d + 4) 77 25 [.ref l0, .int l1, x2, x3] [.int s0, .ref s1] σ (some (.int y.1), y.2) := by
  unfold f77_25 at h
  obtain ⟨u4, hu4, h⟩ := Option.bind_eq_some_iff.mp h
  obtain ⟨y1, hy1, h⟩ := Option.bind_eq_some_iff.mp h
  refine rn_callV [.int s0] rfl rfl ⟨rfl, rfl⟩ hu4 rfl rfl (e114 (d + 3) hy1) ?_
  refine rn_steps 0 28 [.ref l0, .int l1, x2, x3] [.int y1.1] rfl ?_
  refine rn_br (c := y1.1 = 0) rfl rfl decide_eq_true_iff (fun hb => ?_) (fun hb => ?_)
  · rw [if_pos hb] at h
    refine rn_steps 1 34 [.ref l0, .int l1, x2, x3] [.ref l0] rfl ?_
    obtain ⟨u3, hu3, h⟩ := Option.bind_eq_some_iff.mp h
    obtain ⟨y2, hy2, h⟩ := Option.bind_eq_some_iff.mp h
    refine rn_callV [] rfl rfl ⟨rfl, rfl⟩ hu3 rfl rfl (e129 d hy2) ?_
    refine rn_steps 5 42 [.ref l0, .int l1, .int 0, .int 0] [] rfl ?_
    exact e77_42 d 1100 _ _ _ _ _ _ h
  · rw [if_neg hb] at h
    refine rn_steps 1 32 [.ref l0, .int l1, x2, x3] [.int (-1)] rfl ?_
    cases h
    exact rn_ret rfl rfl rfl
/-- LastAsked.catThen(I)I -/
noncomputable def f77 (l0 : Nat) (l1 : Int32) (σ : xM) : Option (Int32 × xM) :=
  (cO σ l0 7).bind fun u4 =>
  (f115 l0 σ).bind fun y1 =>
  if y1.1 = 0 then
  f77_25 l0 l1 1 l0 y1.2
  else
  (cO y1.2 l0 7).bind fun u3 =>
  (f118 l0 l1 y1.2).bind fun y2 =>
  if y2.1 = 0 then
  f77_25 l0 l1 2 l0 y2.2
  else
  f77_25 l0 l1 0 l0 y2.2
set_option maxRecDepth 20000 in
set_option maxHeartbeats 1000000 in
theorem e77 (d : Nat) {l0 : Nat} {l1 : Int32} {σ : xM} {y : Int32 × xM} (h : f77 l0 l1 σ = some y) : Rn (d + 4) 77 0 [.ref l0, .int l1, .retAddr 0, .retAddr 0] [] σ (some (.int y.1), y.2) := by
  unfold f77 at h
  refine rn_steps 2 2 [.ref l0, .int l1, .retAddr 0, .retAddr 0] [.ref l0, .ref l0] rfl ?_
  obtain ⟨u4, hu4, h⟩ := Option.bind_eq_some_iff.mp h
  obtain ⟨y1, hy1, h⟩ := Option.bind_eq_some_iff.mp h
  refine rn_callV [] rfl rfl ⟨rfl, rfl⟩ hu4 rfl rfl (e115 (d + 3) hy1) ?_
  refine rn_steps 0 5 [.ref l0, .int l1, .retAddr 0, .retAddr 0] [.int y1.1, .ref l0] rfl ?_
  refine rn_br (c := ¬ y1.1 = 0) rfl rfl decide_eq_true_iff (fun hb => ?_) (fun hb => ?_)
  · rw [if_neg hb] at h
    refine rn_steps 2 14 [.ref l0, .int l1, .retAddr 0, .retAddr 0] [.int l1, .ref l0, .ref l0] rfl ?_
    obtain ⟨u3, hu3, h⟩ := Option.bind_eq_some_iff.mp h
    obtain ⟨y2, hy2, h⟩ := Option.bind_eq_some_iff.mp h
    refine rn_callV [.int l1] rfl rfl ⟨rfl, rfl⟩ hu3 rfl rfl (e118 (d + 3) hy2) ?_
    refine rn_steps 0 17 [.ref l0, .int l1, .retAddr 0, .retAddr 0] [.int y2.1, .ref l0] rfl ?_
    refine rn_br (c := y2.1 = 0) rfl rfl decide_eq_true_iff (fun hb => ?_) (fun hb => ?_)
    · rw [if_pos hb] at h
      refine rn_steps 1 25 [.ref l0, .int l1, .retAddr 0, .retAddr 0] [.int 2, .ref l0] rfl ?_
      exact e77_25 d _ _ _ _ _ _ _ _ h
    · rw [if_neg hb] at h
      refine rn_steps 2 25 [.ref l0, .int l1, .retAddr 0, .retAddr 0] [.int 0, .ref l0] rfl ?_
      exact e77_25 d _ _ _ _ _ _ _ _ h
  · rw [if_pos (Decidable.not_not.mp hb)] at h
    refine rn_steps 2 25 [.ref l0, .int l1, .retAddr 0, .retAddr 0] [.int 1, .ref l0] rfl ?_
    exact e77_25 d _ _ _ _ _ _ _ _ h
noncomputable def f78_70 (l1 : Int32) (σ : xM) : Option (Int32 × xM) :=
  some (l1, σ)
set_option maxRecDepth 20000 in
set_option maxHeartbeats 1000000 in
theorem e78_70 (d : Nat) (l1 : Int32) (x0 x2 : Value) (σ : xM) (y : Int32 × xM) (h : f78_70 l1 σ = some y) : Rn (d + 4) 78 70 [x0, .int l1, x2] [] σ (some (.int y.1), y.2) := by
  unfold f78_70 at h
  refine rn_steps 1 71 [x0, .int l1, x2] [.int l1] rfl ?_
  cases h
  exact rn_ret rfl rfl rfl
noncomputable def f78_64 (K30 : Nat → Int32 → Int32 → xM → Option (Int32 × xM)) (l0 : Nat) (l1 : Int32) (l2 : Int32) (σ : xM) : Option (Int32 × xM) :=
  K30 l0 l1 (l2 + 1) σ
set_option maxRecDepth 20000 in
set_option maxHeartbeats 1000000 in
theorem e78_64 (d : Nat) (K30 : Nat → Int32 → Int32 → xM → Option (Int32 × xM)) (hK30 : ∀ (l0 : Nat) (l1 : Int32) (l2 : Int32) (σ : xM) (y : Int32 × xM), K30 l0 l1 l2 σ = some y → Rn (d + 4) 78 30 [.ref l0, .int l1, .int l2] [] σ (some (.int y.1), y.2)) (l0 : Nat) (l1 : Int32) (l2 : Int32) (σ : xM) (y : Int32 × xM) (h : f78_64 K30 l0 l1 l2 σ = some y) : Rn (d + 4) 78 64 [.ref l0, .int l1, .int l2] [] σ (some (.int y.1), y.2) := by
  unfold f78_64 at h
  refine rn_steps 2 30 [.ref l0, .int l1, .int (l2 + 1)] [] rfl ?_
  exact hK30 _ _ _ _ _ h
noncomputable def f78_30 : Nat → Nat → Int32 → Int32 → xM → Option (Int32 × xM)
  | 0, _, _, _, _ => none
  | n + 1, l0, l1, l2, σ =>
    if 6 ≤ l2 then
    f78_70 l1 σ
    else
    (gR σ l0 7 2).bind fun r1 =>
    (cO σ r1 4).bind fun u6 =>
    (f48 r1 l2 σ).bind fun y2 =>
    if y2.1 = 0 then
    f78_64 (f78_30 n) l0 l1 l2 y2.2
    else
    (gR y2.2 l0 7 5).bind fun r3 =>
    (cO y2.2 r3 6).bind fun u5 =>
    (f62 r3 l2 y2.2).bind fun y4 =>
    if y4.1 = 0 then
    f78_64 (f78_30 n) l0 l1 l2 y4.2
    else
    f78_64 (f78_30 n) l0 (l1 ||| (1 <<< (l2 &&& 31))) l2 y4.2
set_option maxRecDepth 20000 in
set_option maxHeartbeats 1000000 in
theorem e78_30 (d : Nat) : ∀ (n : Nat) (l0 : Nat) (l1 : Int32) (l2 : Int32) (σ : xM) (y : Int32 × xM), f78_30 n l0 l1 l2 σ = some y → Rn (d + 4) 78 30 [.ref l0, .int l1, .int l2] [] σ (some (.int y.1), y.2) := by
  intro n
  induction n with
  | zero => intro l0 l1 l2 σ y h; cases h
  | succ n ih =>
    intro l0 l1 l2 σ y h
    unfold f78_30 at h
    refine rn_steps 2 33 [.ref l0, .int l1, .int l2] [.int 6, .int l2] rfl ?_
    refine rn_br (c := 6 ≤ l2) rfl rfl decide_eq_true_iff (fun hb => ?_) (fun hb => ?_)
    · rw [if_pos hb] at h
      refine rn_steps 0 70 [.ref l0, .int l1, .int l2] [] rfl ?_
      exact e78_70 d _ _ _ _ _ h
    · rw [if_neg hb] at h
      refine rn_steps 1 37 [.ref l0, .int l1, .int l2] [.ref l0] rfl ?_
      obtain ⟨r1, hr1, h⟩ := Option.bind_eq_some_iff.mp h
      refine rn_gR (c := 7) (f := 2) rfl rfl ⟨⟨rfl, rfl⟩, rfl⟩ hr1 ?_
      refine rn_steps 1 41 [.ref l0, .int l1, .int l2] [.int l2, .ref r1] rfl ?_
      obtain ⟨u6, hu6, h⟩ := Option.bind_eq_some_iff.mp h
      obtain ⟨y2, hy2, h⟩ := Option.bind_eq_some_iff.mp h
      refine rn_callV [.int l2] rfl rfl ⟨rfl, rfl⟩ hu6 rfl rfl (e48 (d + 2) hy2) ?_
      refine rn_steps 0 44 [.ref l0, .int l1, .int l2] [.int y2.1] rfl ?_
      refine rn_br (c := y2.1 = 0) rfl rfl decide_eq_true_iff (fun hb => ?_) (fun hb => ?_)
      · rw [if_pos hb] at h
        refine rn_steps 0 64 [.ref l0, .int l1, .int l2] [] rfl ?_
        exact e78_64 d _ ih _ _ _ _ _ h
      · rw [if_neg hb] at h
        refine rn_steps 1 48 [.ref l0, .int l1, .int l2] [.ref l0] rfl ?_
        obtain ⟨r3, hr3, h⟩ := Option.bind_eq_some_iff.mp h
        refine rn_gR (c := 7) (f := 5) rfl rfl ⟨⟨rfl, rfl⟩, rfl⟩ hr3 ?_
        refine rn_steps 1 52 [.ref l0, .int l1, .int l2] [.int l2, .ref r3] rfl ?_
        obtain ⟨u5, hu5, h⟩ := Option.bind_eq_some_iff.mp h
        obtain ⟨y4, hy4, h⟩ := Option.bind_eq_some_iff.mp h
        refine rn_callV [.int l2] rfl rfl ⟨rfl, rfl⟩ hu5 rfl rfl (e62 (d + 3) hy4) ?_
        refine rn_steps 0 55 [.ref l0, .int l1, .int l2] [.int y4.1] rfl ?_
        refine rn_br (c := y4.1 = 0) rfl rfl decide_eq_true_iff (fun hb => ?_) (fun hb => ?_)
        · rw [if_pos hb] at h
          refine rn_steps 0 64 [.ref l0, .int l1, .int l2] [] rfl ?_
          exact e78_64 d _ ih _ _ _ _ _ h
        · rw [if_neg hb] at h
          refine rn_steps 6 64 [.ref l0, .int (l1 ||| (1 <<< (l2 &&& 31))), .int l2] [] rfl ?_
          exact e78_64 d _ ih _ _ _ _ _ h
noncomputable def f78_13 (l0 : Nat) (s0 : Int32) (s1 : Nat) (σ : xM) : Option (Int32 × xM) :=
  (cO σ s1 7).bind fun u4 =>
  (f114 s1 s0 σ).bind fun y1 =>
  if y1.1 = 0 then
  (cO y1.2 l0 7).bind fun u3 =>
  (f129 l0 y1.2).bind fun y2 =>
  f78_30 1100 l0 0 0 y2.2
  else
  some ((-1), y1.2)
set_option maxRecDepth 20000 in
set_option maxHeartbeats 1000000 in
theorem e78_13 (d : Nat) (l0 : Nat) (s0 : Int32) (s1 : Nat) (x1 x2 : Value) (σ : xM) (y : Int32 × xM) (h : f78_13 l0 s0 s1 σ = some y) : Rn (d + 4) 78 13 [.ref l0, x1, x2] [.int s0, .ref s1] σ (some (.int y.1), y.2) := by
  unfold f78_13 at h
  obtain ⟨u4, hu4, h⟩ := Option.bind_eq_some_iff.mp h
  obtain ⟨y1, hy1, h⟩ := Option.bind_eq_some_iff.mp h
  refine rn_callV [.int s0] rfl rfl ⟨rfl, rfl⟩ hu4 rfl rfl (e114 (d + 3) hy1) ?_
  refine rn_steps 0 16 [.ref l0, x1, x2] [.int y1.1] rfl ?_
  refine rn_br (c := y1.1 = 0) rfl rfl decide_eq_true_iff (fun hb => ?_) (fun hb => ?_)
  · rw [if_pos hb] at h
    refine rn_steps 1 22 [.ref l0, x1, x2] [.ref l0] rfl ?_
    obtain ⟨u3, hu3, h⟩ := Option.bind_eq_some_iff.mp h
    obtain ⟨y2, hy2, h⟩ := Option.bind_eq_some_iff.mp h
    refine rn_callV [] rfl rfl ⟨rfl, rfl⟩ hu3 rfl rfl (e129 d hy2) ?_
    refine rn_steps 5 30 [.ref l0, .int 0, .int 0] [] rfl ?_
    exact e78_30 d 1100 _ _ _ _ _ h
  · rw [if_neg hb] at h
    refine rn_steps 1 20 [.ref l0, x1, x2] [.int (-1)] rfl ?_
    cases h
    exact rn_ret rfl rfl rfl
/-- LastAsked.rounds()I -/
noncomputable def f78 (l0 : Nat) (σ : xM) : Option (Int32 × xM) :=
  (cO σ l0 7).bind fun u2 =>
  (f115 l0 σ).bind fun y1 =>
  if y1.1 = 0 then
  f78_13 l0 1 l0 y1.2
  else
  f78_13 l0 0 l0 y1.2
set_option maxRecDepth 20000 in
set_option maxHeartbeats 1000000 in
theorem e78 (d : Nat) {l0 : Nat} {σ : xM} {y : Int32 × xM} (h : f78 l0 σ = some y) : Rn (d + 4) 78 0 [.ref l0, .retAddr 0, .retAddr 0] [] σ (some (.int y.1), y.2) := by
  unfold f78 at h
  refine rn_steps 2 2 [.ref l0, .retAddr 0, .retAddr 0] [.ref l0, .ref l0] rfl ?_
  obtain ⟨u2, hu2, h⟩ := Option.bind_eq_some_iff.mp h
  obtain ⟨y1, hy1, h⟩ := Option.bind_eq_some_iff.mp h
  refine rn_callV [] rfl rfl ⟨rfl, rfl⟩ hu2 rfl rfl (e115 (d + 3) hy1) ?_
  refine rn_steps 0 5 [.ref l0, .retAddr 0, .retAddr 0] [.int y1.1, .ref l0] rfl ?_
  refine rn_br (c := y1.1 = 0) rfl rfl decide_eq_true_iff (fun hb => ?_) (fun hb => ?_)
  · rw [if_pos hb] at h
    refine rn_steps 1 13 [.ref l0, .retAddr 0, .retAddr 0] [.int 1, .ref l0] rfl ?_
    exact e78_13 d _ _ _ _ _ _ _ h
  · rw [if_neg hb] at h
    refine rn_steps 2 13 [.ref l0, .retAddr 0, .retAddr 0] [.int 0, .ref l0] rfl ?_
    exact e78_13 d _ _ _ _ _ _ _ h
noncomputable def f79_95 (l1 : Int32) (σ : xM) : Option (Int32 × xM) :=
  some (l1, σ)
set_option maxRecDepth 20000 in
set_option maxHeartbeats 1000000 in
theorem e79_95 (d : Nat) (l1 : Int32) (x0 x2 x3 : Value) (σ : xM) (y : Int32 × xM) (h : f79_95 l1 σ = some y) : Rn (d + 4) 79 95 [x0, .int l1, x2, x3] [] σ (some (.int y.1), y.2) := by
  unfold f79_95 at h
  refine rn_steps 1 96 [x0, .int l1, x2, x3] [.int l1] rfl ?_
  cases h
  exact rn_ret rfl rfl rfl
noncomputable def f79_89 (K33 : Nat → Int32 → Int32 → Int32 → xM → Option (Int32 × xM)) (l0 : Nat) (l1 : Int32) (l2 : Int32) (l3 : Int32) (σ : xM) : Option (Int32 × xM) :=
  K33 l0 l1 l2 (l3 + 1) σ
set_option maxRecDepth 20000 in
set_option maxHeartbeats 1000000 in
theorem e79_89 (d : Nat) (K33 : Nat → Int32 → Int32 → Int32 → xM → Option (Int32 × xM)) (hK33 : ∀ (l0 : Nat) (l1 : Int32) (l2 : Int32) (l3 : Int32) (σ : xM) (y : Int32 × xM), K33 l0 l1 l2 l3 σ = some y → Rn (d + 4) 79 33 [.ref l0, .int l1, .int l2, .int l3] [] σ (some (.int y.1), y.2)) (l0 : Nat) (l1 : Int32) (l2 : Int32) (l3 : Int32) (σ : xM) (y : Int32 × xM) (h : f79_89 K33 l0 l1 l2 l3 σ = some y) : Rn (d + 4) 79 89 [.ref l0, .int l1, .int l2, .int l3] [] σ (some (.int y.1), y.2) := by
  unfold f79_89 at h
  refine rn_steps 2 33 [.ref l0, .int l1, .int l2, .int (l3 + 1)] [] rfl ?_
  exact hK33 _ _ _ _ _ _ h
noncomputable def f79_33 : Nat → Nat → Int32 → Int32 → Int32 → xM → Option (Int32 × xM)
  | 0, _, _, _, _, _ => none
  | n + 1, l0, l1, l2, l3, σ =>
    if 6 ≤ l3 then
    f79_95 l1 σ
    else
    (gR σ l0 7 2).bind fun r1 =>
    (cO σ r1 4).bind fun u12 =>
    (f48 r1 l3 σ).bind fun y2 =>
    if y2.1 = 0 then
    f79_89 (f79_33 n) l0 l1 l2 l3 y2.2
    else
    (gR y2.2 l0 7 5).bind fun r3 =>
    (gR y2.2 r3 6 0).bind fun r4 =>
    (aI y2.2 r4 l3).bind fun v5 =>
    if v5 = (-2) then
    f79_89 (f79_33 n) l0 l1 l2 l3 y2.2
    else
    (gR y2.2 l0 7 2).bind fun r6 =>
    (gR y2.2 r6 4 5).bind fun r7 =>
    (aI y2.2 r7 l3).bind fun v8 =>
    if v8 ≤ l2 then
    f79_89 (f79_33 n) l0 l1 l2 l3 y2.2
    else
    (gR y2.2 l0 7 2).bind fun r9 =>
    (gR y2.2 r9 4 5).bind fun r10 =>
    (aI y2.2 r10 l3).bind fun v11 =>
    f79_89 (f79_33 n) l0 l3 v11 l3 y2.2
set_option maxRecDepth 20000 in
set_option maxHeartbeats 1000000 in
theorem e79_33 (d : Nat) : ∀ (n : Nat) (l0 : Nat) (l1 : Int32) (l2 : Int32) (l3 : Int32) (σ : xM) (y : Int32 × xM), f79_33 n l0 l1 l2 l3 σ = some y → Rn (d + 4) 79 33 [.ref l0, .int l1, .int l2, .int l3] [] σ (some (.int y.1), y.2) := by
  intro n
  induction n with
  | zero => intro l0 l1 l2 l3 σ y h; cases h
  | succ n ih =>
    intro l0 l1 l2 l3 σ y h
    unfold f79_33 at h
    refine rn_steps 2 36 [.ref l0, .int l1, .int l2, .int l3] [.int 6, .int l3] rfl ?_
    refine rn_br (c := 6 ≤ l3) rfl rfl decide_eq_true_iff (fun hb => ?_) (fun hb => ?_)
    · rw [if_pos hb] at h
      refine rn_steps 0 95 [.ref l0, .int l1, .int l2, .int l3] [] rfl ?_
      exact e79_95 d _ _ _ _ _ _ h
    · rw [if_neg hb] at h
      refine rn_steps 1 40 [.ref l0, .int l1, .int l2, .int l3] [.ref l0] rfl ?_
      obtain ⟨r1, hr1, h⟩ := Option.bind_eq_some_iff.mp h
      refine rn_gR (c := 7) (f := 2) rfl rfl ⟨⟨rfl, rfl⟩, rfl⟩ hr1 ?_
      refine rn_steps 1 44 [.ref l0, .int l1, .int l2, .int l3] [.int l3, .ref r1] rfl ?_
      obtain ⟨u12, hu12, h⟩ := Option.bind_eq_some_iff.mp h
      obtain ⟨y2, hy2, h⟩ := Option.bind_eq_some_iff.mp h
      refine rn_callV [.int l3] rfl rfl ⟨rfl, rfl⟩ hu12 rfl rfl (e48 (d + 2) hy2) ?_
      refine rn_steps 0 47 [.ref l0, .int l1, .int l2, .int l3] [.int y2.1] rfl ?_
      refine rn_br (c := y2.1 = 0) rfl rfl decide_eq_true_iff (fun hb => ?_) (fun hb => ?_)
      · rw [if_pos hb] at h
        refine rn_steps 0 89 [.ref l0, .int l1, .int l2, .int l3] [] rfl ?_
        exact e79_89 d _ ih _ _ _ _ _ _ h
      · rw [if_neg hb] at h
        refine rn_steps 1 51 [.ref l0, .int l1, .int l2, .int l3] [.ref l0] rfl ?_
        obtain ⟨r3, hr3, h⟩ := Option.bind_eq_some_iff.mp h
        refine rn_gR (c := 7) (f := 5) rfl rfl ⟨⟨rfl, rfl⟩, rfl⟩ hr3 ?_
        refine rn_steps 0 54 [.ref l0, .int l1, .int l2, .int l3] [.ref r3] rfl ?_
        obtain ⟨r4, hr4, h⟩ := Option.bind_eq_some_iff.mp h
        refine rn_gR (c := 6) (f := 0) rfl rfl ⟨⟨rfl, rfl⟩, rfl⟩ hr4 ?_
        refine rn_steps 1 58 [.ref l0, .int l1, .int l2, .int l3] [.int l3, .ref r4] rfl ?_
        obtain ⟨v5, hv5, h⟩ := Option.bind_eq_some_iff.mp h
        refine rn_aI rfl hv5 ?_
        refine rn_steps 1 61 [.ref l0, .int l1, .int l2, .int l3] [.int (-2), .int v5] rfl ?_
        refine rn_br (c := v5 = (-2)) rfl rfl decide_eq_true_iff (fun hb => ?_) (fun hb => ?_)
        · rw [if_pos hb] at h
          refine rn_steps 0 89 [.ref l0, .int l1, .int l2, .int l3] [] rfl ?_
          exact e79_89 d _ ih _ _ _ _ _ _ h
        · rw [if_neg hb] at h
          refine rn_steps 1 65 [.ref l0, .int l1, .int l2, .int l3] [.ref l0] rfl ?_
          obtain ⟨r6, hr6, h⟩ := Option.bind_eq_some_iff.mp h
          refine rn_gR (c := 7) (f := 2) rfl rfl ⟨⟨rfl, rfl⟩, rfl⟩ hr6 ?_
          refine rn_steps 0 68 [.ref l0, .int l1, .int l2, .int l3] [.ref r6] rfl ?_
          obtain ⟨r7, hr7, h⟩ := Option.bind_eq_some_iff.mp h
          refine rn_gR (c := 4) (f := 5) rfl rfl ⟨⟨rfl, rfl⟩, rfl⟩ hr7 ?_
          refine rn_steps 1 72 [.ref l0, .int l1, .int l2, .int l3] [.int l3, .ref r7] rfl ?_
          obtain ⟨v8, hv8, h⟩ := Option.bind_eq_some_iff.mp h
          refine rn_aI rfl hv8 ?_
          refine rn_steps 1 74 [.ref l0, .int l1, .int l2, .int l3] [.int l2, .int v8] rfl ?_
          refine rn_br (c := v8 ≤ l2) rfl rfl decide_eq_true_iff (fun hb => ?_) (fun hb => ?_)
          · rw [if_pos hb] at h
            refine rn_steps 0 89 [.ref l0, .int l1, .int l2, .int l3] [] rfl ?_
            exact e79_89 d _ ih _ _ _ _ _ _ h
          · rw [if_neg hb] at h
            refine rn_steps 3 80 [.ref l0, .int l3, .int l2, .int l3] [.ref l0] rfl ?_
            obtain ⟨r9, hr9, h⟩ := Option.bind_eq_some_iff.mp h
            refine rn_gR (c := 7) (f := 2) rfl rfl ⟨⟨rfl, rfl⟩, rfl⟩ hr9 ?_
            refine rn_steps 0 83 [.ref l0, .int l3, .int l2, .int l3] [.ref r9] rfl ?_
            obtain ⟨r10, hr10, h⟩ := Option.bind_eq_some_iff.mp h
            refine rn_gR (c := 4) (f := 5) rfl rfl ⟨⟨rfl, rfl⟩, rfl⟩ hr10 ?_
            refine rn_steps 1 87 [.ref l0, .int l3, .int l2, .int l3] [.int l3, .ref r10] rfl ?_
            obtain ⟨v11, hv11, h⟩ := Option.bind_eq_some_iff.mp h
            refine rn_aI rfl hv11 ?_
            refine rn_steps 1 89 [.ref l0, .int l3, .int v11, .int l3] [] rfl ?_
            exact e79_89 d _ ih _ _ _ _ _ _ h
noncomputable def f79_13 (l0 : Nat) (s0 : Int32) (s1 : Nat) (σ : xM) : Option (Int32 × xM) :=
  (cO σ s1 7).bind fun u4 =>
  (f114 s1 s0 σ).bind fun y1 =>
  if y1.1 = 0 then
  (cO y1.2 l0 7).bind fun u3 =>
  (f129 l0 y1.2).bind fun y2 =>
  f79_33 1100 l0 (-2) 0 0 y2.2
  else
  some ((-1), y1.2)
set_option maxRecDepth 20000 in
set_option maxHeartbeats 1000000 in
theorem e79_13 (d : Nat) (l0 : Nat) (s0 : Int32) (s1 : Nat) (x1 x2 x3 : Value) (σ : xM) (y : Int32 × xM) (h : f79_13 l0 s0 s1 σ = some y) : Rn (d + 4) 79 13 [.ref l0, x1, x2, x3] [.int s0, .ref s1] σ (some (.int y.1), y.2) := by
  unfold f79_13 at h
  obtain ⟨u4, hu4, h⟩ := Option.bind_eq_some_iff.mp h
  obtain ⟨y1, hy1, h⟩ := Option.bind_eq_some_iff.mp h
  refine rn_callV [.int s0] rfl rfl ⟨rfl, rfl⟩ hu4 rfl rfl (e114 (d + 3) hy1) ?_
  refine rn_steps 0 16 [.ref l0, x1, x2, x3] [.int y1.1] rfl ?_
  refine rn_br (c := y1.1 = 0) rfl rfl decide_eq_true_iff (fun hb => ?_) (fun hb => ?_)
  · rw [if_pos hb] at h
    refine rn_steps 1 22 [.ref l0, x1, x2, x3] [.ref l0] rfl ?_
    obtain ⟨u3, hu3, h⟩ := Option.bind_eq_some_iff.mp h
    obtain ⟨y2, hy2, h⟩ := Option.bind_eq_some_iff.mp h
    refine rn_callV [] rfl rfl ⟨rfl, rfl⟩ hu3 rfl rfl (e129 d hy2) ?_
    refine rn_steps 7 33 [.ref l0, .int (-2), .int 0, .int 0] [] rfl ?_
    exact e79_33 d 1100 _ _ _ _ _ _ h
  · rw [if_neg hb] at h
    refine rn_steps 1 20 [.ref l0, x1, x2, x3] [.int (-1)] rfl ?_
    cases h
    exact rn_ret rfl rfl rfl
/-- LastAsked.worthiest()I -/
noncomputable def f79 (l0 : Nat) (σ : xM) : Option (Int32 × xM) :=
  (cO σ l0 7).bind fun u2 =>
  (f115 l0 σ).bind fun y1 =>
  if y1.1 = 0 then
  f79_13 l0 1 l0 y1.2
  else
  f79_13 l0 0 l0 y1.2
set_option maxRecDepth 20000 in
set_option maxHeartbeats 1000000 in
theorem e79 (d : Nat) {l0 : Nat} {σ : xM} {y : Int32 × xM} (h : f79 l0 σ = some y) : Rn (d + 4) 79 0 [.ref l0, .retAddr 0, .retAddr 0, .retAddr 0] [] σ (some (.int y.1), y.2) := by
  unfold f79 at h
  refine rn_steps 2 2 [.ref l0, .retAddr 0, .retAddr 0, .retAddr 0] [.ref l0, .ref l0] rfl ?_
  obtain ⟨u2, hu2, h⟩ := Option.bind_eq_some_iff.mp h
  obtain ⟨y1, hy1, h⟩ := Option.bind_eq_some_iff.mp h
  refine rn_callV [] rfl rfl ⟨rfl, rfl⟩ hu2 rfl rfl (e115 (d + 3) hy1) ?_
  refine rn_steps 0 5 [.ref l0, .retAddr 0, .retAddr 0, .retAddr 0] [.int y1.1, .ref l0] rfl ?_
  refine rn_br (c := y1.1 = 0) rfl rfl decide_eq_true_iff (fun hb => ?_) (fun hb => ?_)
  · rw [if_pos hb] at h
    refine rn_steps 1 13 [.ref l0, .retAddr 0, .retAddr 0, .retAddr 0] [.int 1, .ref l0] rfl ?_
    exact e79_13 d _ _ _ _ _ _ _ _ h
  · rw [if_neg hb] at h
    refine rn_steps 2 13 [.ref l0, .retAddr 0, .retAddr 0, .retAddr 0] [.int 0, .ref l0] rfl ?_
    exact e79_13 d _ _ _ _ _ _ _ _ h
noncomputable def f80_66 (s0 : Int32) (σ : xM) : Option (Int32 × xM) :=
  some (s0, σ)
set_option maxRecDepth 20000 in
set_option maxHeartbeats 1000000 in
theorem e80_66 (d : Nat) (s0 : Int32) (x0 x1 x2 x3 : Value) (σ : xM) (y : Int32 × xM) (h : f80_66 s0 σ = some y) : Rn (d + 4) 80 66 [x0, x1, x2, x3] [.int s0] σ (some (.int y.1), y.2) := by
  unfold f80_66 at h
  cases h
  exact rn_ret rfl rfl rfl
noncomputable def f80_37 (l0 : Nat) (l1 : Int32) (l2 : Int32) (s0 : Int32) (s1 : Nat) (σ : xM) : Option (Int32 × xM) :=
  (cO σ s1 7).bind fun u6 =>
  (f114 s1 s0 σ).bind fun y1 =>
  if y1.1 = 0 then
  (cO y1.2 l0 7).bind fun u5 =>
  (f129 l0 y1.2).bind fun y2 =>
  (cO y2.2 y2.1 6).bind fun u4 =>
  (f60 y2.1 l1 l2 y2.2).bind fun y3 =>
  if y3.1 = (-1) then
  f80_66 (-2) y3.2
  else
  f80_66 y3.1 y3.2
  else
  some ((-1), y1.2)
set_option maxRecDepth 20000 in
set_option maxHeartbeats 1000000 in
theorem e80_37 (d : Nat) (l0 : Nat) (l1 : Int32) (l2 : Int32) (s0 : Int32) (s1 : Nat) (x3 : Value) (σ : xM) (y : Int32 × xM) (h : f80_37 l0 l1 l2 s0 s1 σ = some y) : Rn (d + 4) 80 37 [.ref l0, .int l1, .int l2, x3] [.int s0, .ref s1] σ (some (.int y.1), y.2) := by
  unfold f80_37 at h
  obtain ⟨u6, hu6, h⟩ := Option.bind_eq_some_iff.mp h
  obtain ⟨y1, hy1, h⟩ := Option.bind_eq_some_iff.mp h
  refine rn_callV [.int s0] rfl rfl ⟨rfl, rfl⟩ hu6 rfl rfl (e114 (d + 3) hy1) ?_
  refine rn_steps 0 40 [.ref l0, .int l1, .int l2, x3] [.int y1.1] rfl ?_
  refine rn_br (c := y1.1 = 0) rfl rfl decide_eq_true_iff (fun hb => ?_) (fun hb => ?_)
  · rw [if_pos hb] at h
    refine rn_steps 1 46 [.ref l0, .int l1, .int l2, x3] [.ref l0] rfl ?_
    obtain ⟨u5, hu5, h⟩ := Option.bind_eq_some_iff.mp h
    obtain ⟨y2, hy2, h⟩ := Option.bind_eq_some_iff.mp h
    refine rn_callV [] rfl rfl ⟨rfl, rfl⟩ hu5 rfl rfl (e129 d hy2) ?_
    refine rn_steps 2 51 [.ref l0, .int l1, .int l2, x3] [.int l2, .int l1, .ref y2.1] rfl ?_
    obtain ⟨u4, hu4, h⟩ := Option.bind_eq_some_iff.mp h
    obtain ⟨y3, hy3, h⟩ := Option.bind_eq_some_iff.mp h
    refine rn_callV [.int l1, .int l2] rfl rfl ⟨rfl, rfl⟩ hu4 rfl rfl (e60 (d + 3) hy3) ?_
    refine rn_steps 3 57 [.ref l0, .int l1, .int l2, .int y3.1] [.int (-1), .int y3.1] rfl ?_
    refine rn_br (c := ¬ y3.1 = (-1)) rfl rfl decide_eq_true_iff (fun hb => ?_) (fun hb => ?_)
    · rw [if_neg hb] at h
      refine rn_steps 1 66 [.ref l0, .int l1, .int l2, .int y3.1] [.int y3.1] rfl ?_
      exact e80_66 d _ _ _ _ _ _ _ h
    · rw [if_pos (Decidable.not_not.mp hb)] at h
      refine rn_steps 2 66 [.ref l0, .int l1, .int l2, .int y3.1] [.int (-2)] rfl ?_
      exact e80_66 d _ _ _ _ _ _ _ h
  · rw [if_neg hb] at h
    refine rn_steps 1 44 [.ref l0, .int l1, .int l2, x3] [.int (-1)] rfl ?_
    cases h
    exact rn_ret rfl rfl rfl
noncomputable def f80_36 (l0 : Nat) (l1 : Int32) (l2 : Int32) (s0 : Nat) (σ : xM) : Option (Int32 × xM) :=
  f80_37 l0 l1 l2 1 s0 σ
set_option maxRecDepth 20000 in
set_option maxHeartbeats 1000000 in
theorem e80_36 (d : Nat) (l0 : Nat) (l1 : Int32) (l2 : Int32) (s0 : Nat) (x3 : Value) (σ : xM) (y : Int32 × xM) (h : f80_36 l0 l1 l2 s0 σ = some y) : Rn (d + 4) 80 36 [.ref l0, .int l1, .int l2, x3] [.ref s0] σ (some (.int y.1), y.2) := by
  unfold f80_36 at h
  refine rn_steps 1 37 [.ref l0, .int l1, .int l2, x3] [.int 1, .ref s0] rfl ?_
  exact e80_37 d _ _ _ _ _ _ _ _ h
/-- LastAsked.plot(II)I -/
noncomputable def f80 (l0 : Nat) (l1 : Int32) (l2 : Int32) (σ : xM) : Option (Int32 × xM) :=
  (cO σ l0 7).bind fun u8 =>
  (f117 l0 l1 l2 σ).bind fun y1 =>
  if y1.1 = 0 then
  f80_36 l0 l1 l2 l0 y1.2
  else
  (gR y1.2 l0 7 2).bind fun r2 =>
  (cO y1.2 r2 4).bind fun u7 =>
  (f48 r2 l1 y1.2).bind fun y3 =>
  if y3.1 = 0 then
  f80_36 l0 l1 l2 l0 y3.2
  else
  (gR y3.2 l0 7 2).bind fun r4 =>
  (cO y3.2 r4 4).bind fun u6 =>
  (f48 r4 l2 y3.2).bind fun y5 =>
  if y5.1 = 0 then
  f80_36 l0 l1 l2 l0 y5.2
  else
  f80_37 l0 l1 l2 0 l0 y5.2
set_option maxRecDepth 20000 in
set_option maxHeartbeats 1000000 in
theorem e80 (d : Nat) {l0 : Nat} {l1 : Int32} {l2 : Int32} {σ : xM} {y : Int32 × xM} (h : f80 l0 l1 l2 σ = some y) : Rn (d + 4) 80 0 [.ref l0, .int l1, .int l2, .retAddr 0] [] σ (some (.int y.1), y.2) := by
  unfold f80 at h
  refine rn_steps 4 4 [.ref l0, .int l1, .int l2, .retAddr 0] [.int l2, .int l1, .ref l0, .ref l0] rfl ?_
  obtain ⟨u8, hu8, h⟩ := Option.bind_eq_some_iff.mp h
  obtain ⟨y1, hy1, h⟩ := Option.bind_eq_some_iff.mp h
  refine rn_callV [.int l1, .int l2] rfl rfl ⟨rfl, rfl⟩ hu8 rfl rfl (e117 (d + 2) hy1) ?_
  refine rn_steps 0 7 [.ref l0, .int l1, .int l2, .retAddr 0] [.int y1.1, .ref l0] rfl ?_
  refine rn_br (c := y1.1 = 0) rfl rfl decide_eq_true_iff (fun hb => ?_) (fun hb => ?_)
  · rw [if_pos hb] at h
    refine rn_steps 0 36 [.ref l0, .int l1, .int l2, .retAddr 0] [.ref l0] rfl ?_
    exact e80_36 d _ _ _ _ _ _ _ h
  · rw [if_neg hb] at h
    refine rn_steps 1 11 [.ref l0, .int l1, .int l2, .retAddr 0] [.ref l0, .ref l0] rfl ?_
    obtain ⟨r2, hr2, h⟩ := Option.bind_eq_some_iff.mp h
    refine rn_gR (c := 7) (f := 2) rfl rfl ⟨⟨rfl, rfl⟩, rfl⟩ hr2 ?_
    refine rn_steps 1 15 [.ref l0, .int l1, .int l2, .retAddr 0] [.int l1, .ref r2, .ref l0] rfl ?_
    obtain ⟨u7, hu7, h⟩ := Option.bind_eq_some_iff.mp h
    obtain ⟨y3, hy3, h⟩ := Option.bind_eq_some_iff.mp h
    refine rn_callV [.int l1] rfl rfl ⟨rfl, rfl⟩ hu7 rfl rfl (e48 (d + 2) hy3) ?_
    refine rn_steps 0 18 [.ref l0, .int l1, .int l2, .retAddr 0] [.int y3.1, .ref l0] rfl ?_
    refine rn_br (c := y3.1 = 0) rfl rfl decide_eq_true_iff (fun hb => ?_) (fun hb => ?_)
    · rw [if_pos hb] at h
      refine rn_steps 0 36 [.ref l0, .int l1, .int l2, .retAddr 0] [.ref l0] rfl ?_
      exact e80_36 d _ _ _ _ _ _ _ h
    · rw [if_neg hb] at h
      refine rn_steps 1 22 [.ref l0, .int l1, .int l2, .retAddr 0] [.ref l0, .ref l0] rfl ?_
      obtain ⟨r4, hr4, h⟩ := Option.bind_eq_some_iff.mp h
      refine rn_gR (c := 7) (f := 2) rfl rfl ⟨⟨rfl, rfl⟩, rfl⟩ hr4 ?_
      refine rn_steps 1 26 [.ref l0, .int l1, .int l2, .retAddr 0] [.int l2, .ref r4, .ref l0] rfl ?_
      obtain ⟨u6, hu6, h⟩ := Option.bind_eq_some_iff.mp h
      obtain ⟨y5, hy5, h⟩ := Option.bind_eq_some_iff.mp h
      refine rn_callV [.int l2] rfl rfl ⟨rfl, rfl⟩ hu6 rfl rfl (e48 (d + 2) hy5) ?_
      refine rn_steps 0 29 [.ref l0, .int l1, .int l2, .retAddr 0] [.int y5.1, .ref l0] rfl ?_
      refine rn_br (c := y5.1 = 0) rfl rfl decide_eq_true_iff (fun hb => ?_) (fun hb => ?_)
      · rw [if_pos hb] at h
        refine rn_steps 0 36 [.ref l0, .int l1, .int l2, .retAddr 0] [.ref l0] rfl ?_
        exact e80_36 d _ _ _ _ _ _ _ h
      · rw [if_neg hb] at h
        refine rn_steps 2 37 [.ref l0, .int l1, .int l2, .retAddr 0] [.int 0, .ref l0] rfl ?_
        exact e80_37 d _ _ _ _ _ _ _ _ h
noncomputable def f132_79 (l3 : Int64) (σ : xM) : Option (Int64 × xM) :=
  some (l3, σ)
set_option maxRecDepth 20000 in
set_option maxHeartbeats 1000000 in
theorem e132_79 (d : Nat) (l3 : Int64) (x0 x1 x2 x5 : Value) (σ : xM) (y : Int64 × xM) (h : f132_79 l3 σ = some y) : Rn (d + 1) 132 79 [x0, x1, x2, .long l3, .retAddr 1, x5] [] σ (some (.long y.1), y.2) := by
  unfold f132_79 at h
  refine rn_steps 1 80 [x0, x1, x2, .long l3, .retAddr 1, x5] [.long l3] rfl ?_
  cases h
  exact rn_ret rfl rfl rfl
noncomputable def f132_73 (K5 : Nat → Int32 → Int32 → Int64 → Int32 → xM → Option (Int64 × xM)) (l0 : Nat) (l1 : Int32) (l2 : Int32) (l3 : Int64) (l5 : Int32) (σ : xM) : Option (Int64 × xM) :=
  K5 l0 l1 l2 l3 (l5 + 1) σ
set_option maxRecDepth 20000 in
set_option maxHeartbeats 1000000 in
theorem e132_73 (d : Nat) (K5 : Nat → Int32 → Int32 → Int64 → Int32 → xM → Option (Int64 × xM)) (hK5 : ∀ (l0 : Nat) (l1 : Int32) (l2 : Int32) (l3 : Int64) (l5 : Int32) (σ : xM) (y : Int64 × xM), K5 l0 l1 l2 l3 l5 σ = some y → Rn (d + 1) 132 5 [.ref l0, .int l1, .int l2, .long l3, .retAddr 1, .int l5] [] σ (some (.long y.1), y.2)) (l0 : Nat) (l1 : Int32) (l2 : Int32) (l3 : Int64) (l5 : Int32) (σ : xM) (y : Int64 × xM) (h : f132_73 K5 l0 l1 l2 l3 l5 σ = some y) : Rn (d + 1) 132 73 [.ref l0, .int l1, .int l2, .long l3, .retAddr 1, .int l5] [] σ (some (.long y.1), y.2) := by
  unfold f132_73 at h
  refine rn_steps 2 5 [.ref l0, .int l1, .int l2, .long l3, .retAddr 1, .int (l5 + 1)] [] rfl ?_
  exact hK5 _ _ _ _ _ _ _ h
noncomputable def f132_5 : Nat → Nat → Int32 → Int32 → Int64 → Int32 → xM → Option (Int64 × xM)
  | 0, _, _, _, _, _, _ => none
  | n + 1, l0, l1, l2, l3, l5, σ =>
    if 6 ≤ l5 then
    f132_79 l3 σ
    else
    (f124 l1 l5 σ).bind fun y1 =>
    if y1.1 = 0 then
    (f124 l2 l5 y1.2).bind fun y2 =>
    if y2.1 = 0 then
    f132_73 (f132_5 n) l0 l1 l2 (l3 * 100) l5 y2.2
    else
    (gR y2.2 l0 7 1).bind fun r3 =>
    (gR y2.2 r3 0 9).bind fun r4 =>
    (aI y2.2 r4 l5).bind fun v5 =>
    f132_73 (f132_5 n) l0 l1 l2 (l3 * ((100 - v5).toInt64)) l5 y2.2
    else
    (gR y1.2 l0 7 1).bind fun r6 =>
    (gR y1.2 r6 0 9).bind fun r7 =>
    (aI y1.2 r7 l5).bind fun v8 =>
    f132_73 (f132_5 n) l0 l1 l2 (l3 * v8.toInt64) l5 y1.2
set_option maxRecDepth 20000 in
set_option maxHeartbeats 1000000 in
theorem e132_5 (d : Nat) : ∀ (n : Nat) (l0 : Nat) (l1 : Int32) (l2 : Int32) (l3 : Int64) (l5 : Int32) (σ : xM) (y : Int64 × xM), f132_5 n l0 l1 l2 l3 l5 σ = some y → Rn (d + 1) 132 5 [.ref l0, .int l1, .int l2, .long l3, .retAddr 1, .int l5] [] σ (some (.long y.1), y.2) := by
  intro n
  induction n with
  | zero => intro l0 l1 l2 l3 l5 σ y h; cases h
  | succ n ih =>
    intro l0 l1 l2 l3 l5 σ y h
    unfold f132_5 at h
    refine rn_steps 2 9 [.ref l0, .int l1, .int l2, .long l3, .retAddr 1, .int l5] [.int 6, .int l5] rfl ?_
    refine rn_br (c := 6 ≤ l5) rfl rfl decide_eq_true_iff (fun hb => ?_) (fun hb => ?_)
    · rw [if_pos hb] at h
      refine rn_steps 0 79 [.ref l0, .int l1, .int l2, .long l3, .retAddr 1, .int l5] [] rfl ?_
      exact e132_79 d _ _ _ _ _ _ _ h
    · rw [if_neg hb] at h
      refine rn_steps 2 15 [.ref l0, .int l1, .int l2, .long l3, .retAddr 1, .int l5] [.int l5, .int l1] rfl ?_
      obtain ⟨y1, hy1, h⟩ := Option.bind_eq_some_iff.mp h
      refine rn_callS [.int l1, .int l5] rfl rfl rfl ⟨rfl, rfl, rfl⟩ rfl rfl (e124 d hy1) ?_
      refine rn_steps 0 18 [.ref l0, .int l1, .int l2, .long l3, .retAddr 1, .int l5] [.int y1.1] rfl ?_
      refine rn_br (c := y1.1 = 0) rfl rfl decide_eq_true_iff (fun hb => ?_) (fun hb => ?_)
      · rw [if_pos hb] at h
        refine rn_steps 2 41 [.ref l0, .int l1, .int l2, .long l3, .retAddr 1, .int l5] [.int l5, .int l2] rfl ?_
        obtain ⟨y2, hy2, h⟩ := Option.bind_eq_some_iff.mp h
        refine rn_callS [.int l2, .int l5] rfl rfl rfl ⟨rfl, rfl, rfl⟩ rfl rfl (e124 d hy2) ?_
        refine rn_steps 0 44 [.ref l0, .int l1, .int l2, .long l3, .retAddr 1, .int l5] [.int y2.1] rfl ?_
        refine rn_br (c := y2.1 = 0) rfl rfl decide_eq_true_iff (fun hb => ?_) (fun hb => ?_)
        · rw [if_pos hb] at h
          refine rn_steps 4 73 [.ref l0, .int l1, .int l2, .long (l3 * 100), .retAddr 1, .int l5] [] rfl ?_
          exact e132_73 d _ ih _ _ _ _ _ _ _ h
        · rw [if_neg hb] at h
          refine rn_steps 3 51 [.ref l0, .int l1, .int l2, .long l3, .retAddr 1, .int l5] [.ref l0, .int 100, .long l3] rfl ?_
          obtain ⟨r3, hr3, h⟩ := Option.bind_eq_some_iff.mp h
          refine rn_gR (c := 7) (f := 1) rfl rfl ⟨⟨rfl, rfl⟩, rfl⟩ hr3 ?_
          refine rn_steps 0 54 [.ref l0, .int l1, .int l2, .long l3, .retAddr 1, .int l5] [.ref r3, .int 100, .long l3] rfl ?_
          obtain ⟨r4, hr4, h⟩ := Option.bind_eq_some_iff.mp h
          refine rn_gR (c := 0) (f := 9) rfl rfl ⟨⟨rfl, rfl⟩, rfl⟩ hr4 ?_
          refine rn_steps 1 59 [.ref l0, .int l1, .int l2, .long l3, .retAddr 1, .int l5] [.int l5, .ref r4, .int 100, .long l3] rfl ?_
          obtain ⟨v5, hv5, h⟩ := Option.bind_eq_some_iff.mp h
          refine rn_aI rfl hv5 ?_
          refine rn_steps 5 73 [.ref l0, .int l1, .int l2, .long (l3 * ((100 - v5).toInt64)), .retAddr 1, .int l5] [] rfl ?_
          exact e132_73 d _ ih _ _ _ _ _ _ _ h
      · rw [if_neg hb] at h
        refine rn_steps 2 23 [.ref l0, .int l1, .int l2, .long l3, .retAddr 1, .int l5] [.ref l0, .long l3] rfl ?_
        obtain ⟨r6, hr6, h⟩ := Option.bind_eq_some_iff.mp h
        refine rn_gR (c := 7) (f := 1) rfl rfl ⟨⟨rfl, rfl⟩, rfl⟩ hr6 ?_
        refine rn_steps 0 26 [.ref l0, .int l1, .int l2, .long l3, .retAddr 1, .int l5] [.ref r6, .long l3] rfl ?_
        obtain ⟨r7, hr7, h⟩ := Option.bind_eq_some_iff.mp h
        refine rn_gR (c := 0) (f := 9) rfl rfl ⟨⟨rfl, rfl⟩, rfl⟩ hr7 ?_
        refine rn_steps 1 31 [.ref l0, .int l1, .int l2, .long l3, .retAddr 1, .int l5] [.int l5, .ref r7, .long l3] rfl ?_
        obtain ⟨v8, hv8, h⟩ := Option.bind_eq_some_iff.mp h
        refine rn_aI rfl hv8 ?_
        refine rn_steps 4 73 [.ref l0, .int l1, .int l2, .long (l3 * v8.toInt64), .retAddr 1, .int l5] [] rfl ?_
        exact e132_73 d _ ih _ _ _ _ _ _ _ h
/-- LastAsked.likely(II)J -/
noncomputable def f132 (l0 : Nat) (l1 : Int32) (l2 : Int32) (σ : xM) : Option (Int64 × xM) :=
  f132_5 1100 l0 l1 l2 1 0 σ
set_option maxRecDepth 20000 in
set_option maxHeartbeats 1000000 in
theorem e132 (d : Nat) {l0 : Nat} {l1 : Int32} {l2 : Int32} {σ : xM} {y : Int64 × xM} (h : f132 l0 l1 l2 σ = some y) : Rn (d + 1) 132 0 [.ref l0, .int l1, .int l2, .retAddr 0, .retAddr 0, .retAddr 0] [] σ (some (.long y.1), y.2) := by
  unfold f132 at h
  refine rn_steps 4 5 [.ref l0, .int l1, .int l2, .long 1, .retAddr 1, .int 0] [] rfl ?_
  exact e132_5 d 1100 _ _ _ _ _ _ _ h
noncomputable def f133_93 (l3 : Int64) (σ : xM) : Option (Int64 × xM) :=
  some (l3, σ)
set_option maxRecDepth 20000 in
set_option maxHeartbeats 1000000 in
theorem e133_93 (d : Nat) (l3 : Int64) (x0 x1 x2 x5 x6 : Value) (σ : xM) (y : Int64 × xM) (h : f133_93 l3 σ = some y) : Rn (d + 3) 133 93 [x0, x1, x2, .long l3, .retAddr 1, x5, x6] [] σ (some (.long y.1), y.2) := by
  unfold f133_93 at h
  refine rn_steps 1 94 [x0, x1, x2, .long l3, .retAddr 1, x5, x6] [.long l3] rfl ?_
  cases h
  exact rn_ret rfl rfl rfl
noncomputable def f133_87 (K20 : Nat → Int32 → Nat → Int64 → Int32 → xM → Option (Int64 × xM)) (l0 : Nat) (l1 : Int32) (l2 : Nat) (l3 : Int64) (l5 : Int32) (σ : xM) : Option (Int64 × xM) :=
  K20 l0 l1 l2 l3 (l5 + 1) σ
set_option maxRecDepth 20000 in
set_option maxHeartbeats 1000000 in
theorem e133_87 (d : Nat) (K20 : Nat → Int32 → Nat → Int64 → Int32 → xM → Option (Int64 × xM)) (hK20 : ∀ (l0 : Nat) (l1 : Int32) (l2 : Nat) (l3 : Int64) (l5 : Int32) (x6 : Value) (σ : xM) (y : Int64 × xM), K20 l0 l1 l2 l3 l5 σ = some y → Rn (d + 3) 133 20 [.ref l0, .int l1, .ref l2, .long l3, .retAddr 1, .int l5, x6] [] σ (some (.long y.1), y.2)) (l0 : Nat) (l1 : Int32) (l2 : Nat) (l3 : Int64) (l5 : Int32) (x6 : Value) (σ : xM) (y : Int64 × xM) (h : f133_87 K20 l0 l1 l2 l3 l5 σ = some y) : Rn (d + 3) 133 87 [.ref l0, .int l1, .ref l2, .long l3, .retAddr 1, .int l5, x6] [] σ (some (.long y.1), y.2) := by
  unfold f133_87 at h
  refine rn_steps 2 20 [.ref l0, .int l1, .ref l2, .long l3, .retAddr 1, .int (l5 + 1), x6] [] rfl ?_
  exact hK20 _ _ _ _ _ _ _ _ h
noncomputable def f133_58 (K20 : Nat → Int32 → Nat → Int64 → Int32 → xM → Option (Int64 × xM)) (l0 : Nat) (l1 : Int32) (l2 : Nat) (l3 : Int64) (l5 : Int32) (s0 : Int32) (σ : xM) : Option (Int64 × xM) :=
  if s0 = (-1) then
  f133_87 K20 l0 l1 l2 l3 l5 σ
  else
  (gR σ l2 4 5).bind fun r1 =>
  (aI σ r1 l5).bind fun v2 =>
  (cO σ l0 7).bind fun u4 =>
  (f132 l0 s0 (1 <<< (l1 &&& 31)) σ).bind fun y3 =>
  f133_87 K20 l0 l1 l2 (l3 + (v2.toInt64 * y3.1)) l5 y3.2
set_option maxRecDepth 20000 in
set_option maxHeartbeats 1000000 in
theorem e133_58 (d : Nat) (K20 : Nat → Int32 → Nat → Int64 → Int32 → xM → Option (Int64 × xM)) (hK20 : ∀ (l0 : Nat) (l1 : Int32) (l2 : Nat) (l3 : Int64) (l5 : Int32) (x6 : Value) (σ : xM) (y : Int64 × xM), K20 l0 l1 l2 l3 l5 σ = some y → Rn (d + 3) 133 20 [.ref l0, .int l1, .ref l2, .long l3, .retAddr 1, .int l5, x6] [] σ (some (.long y.1), y.2)) (l0 : Nat) (l1 : Int32) (l2 : Nat) (l3 : Int64) (l5 : Int32) (s0 : Int32) (x6 : Value) (σ : xM) (y : Int64 × xM) (h : f133_58 K20 l0 l1 l2 l3 l5 s0 σ = some y) : Rn (d + 3) 133 58 [.ref l0, .int l1, .ref l2, .long l3, .retAddr 1, .int l5, x6] [.int s0] σ (some (.long y.1), y.2) := by
  unfold f133_58 at h
  refine rn_steps 3 63 [.ref l0, .int l1, .ref l2, .long l3, .retAddr 1, .int l5, .int s0] [.int (-1), .int s0] rfl ?_
  refine rn_br (c := s0 = (-1)) rfl rfl decide_eq_true_iff (fun hb => ?_) (fun hb => ?_)
  · rw [if_pos hb] at h
    refine rn_steps 0 87 [.ref l0, .int l1, .ref l2, .long l3, .retAddr 1, .int l5, .int s0] [] rfl ?_
    exact e133_87 d _ hK20 _ _ _ _ _ _ _ _ h
  · rw [if_neg hb] at h
    refine rn_steps 2 68 [.ref l0, .int l1, .ref l2, .long l3, .retAddr 1, .int l5, .int s0] [.ref l2, .long l3] rfl ?_
    obtain ⟨r1, hr1, h⟩ := Option.bind_eq_some_iff.mp h
    refine rn_gR (c := 4) (f := 5) rfl rfl ⟨⟨rfl, rfl⟩, rfl⟩ hr1 ?_
    refine rn_steps 1 73 [.ref l0, .int l1, .ref l2, .long l3, .retAddr 1, .int l5, .int s0] [.int l5, .ref r1, .long l3] rfl ?_
    obtain ⟨v2, hv2, h⟩ := Option.bind_eq_some_iff.mp h
    refine rn_aI rfl hv2 ?_
    refine rn_steps 6 81 [.ref l0, .int l1, .ref l2, .long l3, .retAddr 1, .int l5, .int s0] [.int (1 <<< (l1 &&& 31)), .int s0, .ref l0, .long v2.toInt64, .long l3] rfl ?_
    obtain ⟨u4, hu4, h⟩ := Option.bind_eq_some_iff.mp h
    obtain ⟨y3, hy3, h⟩ := Option.bind_eq_some_iff.mp h
    refine rn_callV [.int s0, .int (1 <<< (l1 &&& 31))] rfl rfl ⟨rfl, rfl⟩ hu4 rfl rfl (e132 (d + 1) hy3) ?_
    refine rn_steps 3 87 [.ref l0, .int l1, .ref l2, .long (l3 + (v2.toInt64 * y3.1)), .retAddr 1, .int l5, .int s0] [] rfl ?_
    exact e133_87 d _ hK20 _ _ _ _ _ _ _ _ h
noncomputable def f133_57 (K20 : Nat → Int32 → Nat → Int64 → Int32 → xM → Option (Int64 × xM)) (l0 : Nat) (l1 : Int32) (l2 : Nat) (l3 : Int64) (l5 : Int32) (σ : xM) : Option (Int64 × xM) :=
  f133_58 K20 l0 l1 l2 l3 l5 (-1) σ
set_option maxRecDepth 20000 in
set_option maxHeartbeats 1000000 in
theorem e133_57 (d : Nat) (K20 : Nat → Int32 → Nat → Int64 → Int32 → xM → Option (Int64 × xM)) (hK20 : ∀ (l0 : Nat) (l1 : Int32) (l2 : Nat) (l3 : Int64) (l5 : Int32) (x6 : Value) (σ : xM) (y : Int64 × xM), K20 l0 l1 l2 l3 l5 σ = some y → Rn (d + 3) 133 20 [.ref l0, .int l1, .ref l2, .long l3, .retAddr 1, .int l5, x6] [] σ (some (.long y.1), y.2)) (l0 : Nat) (l1 : Int32) (l2 : Nat) (l3 : Int64) (l5 : Int32) (x6 : Value) (σ : xM) (y : Int64 × xM) (h : f133_57 K20 l0 l1 l2 l3 l5 σ = some y) : Rn (d + 3) 133 57 [.ref l0, .int l1, .ref l2, .long l3, .retAddr 1, .int l5, x6] [] σ (some (.long y.1), y.2) := by
  unfold f133_57 at h
  refine rn_steps 1 58 [.ref l0, .int l1, .ref l2, .long l3, .retAddr 1, .int l5, x6] [.int (-1)] rfl ?_
  exact e133_58 d _ hK20 _ _ _ _ _ _ _ _ _ h
noncomputable def f133_20 : Nat → Nat → Int32 → Nat → Int64 → Int32 → xM → Option (Int64 × xM)
  | 0, _, _, _, _, _, _ => none
  | n + 1, l0, l1, l2, l3, l5, σ =>
    if 6 ≤ l5 then
    f133_93 l3 σ
    else
    (cO σ l2 4).bind fun u7 =>
    (f48 l2 l1 σ).bind fun y1 =>
    if y1.1 = 0 then
    f133_57 (f133_20 n) l0 l1 l2 l3 l5 y1.2
    else
    (cO y1.2 l2 4).bind fun u6 =>
    (f48 l2 l5 y1.2).bind fun y2 =>
    if y2.1 = 0 then
    f133_57 (f133_20 n) l0 l1 l2 l3 l5 y2.2
    else
    (gR y2.2 l0 7 5).bind fun r3 =>
    (cO y2.2 r3 6).bind fun u5 =>
    (f60 r3 l5 l1 y2.2).bind fun y4 =>
    f133_58 (f133_20 n) l0 l1 l2 l3 l5 y4.1 y4.2
set_option maxRecDepth 20000 in
set_option maxHeartbeats 1000000 in
theorem e133_20 (d : Nat) : ∀ (n : Nat) (l0 : Nat) (l1 : Int32) (l2 : Nat) (l3 : Int64) (l5 : Int32) (x6 : Value) (σ : xM) (y : Int64 × xM), f133_20 n l0 l1 l2 l3 l5 σ = some y → Rn (d + 3) 133 20 [.ref l0, .int l1, .ref l2, .long l3, .retAddr 1, .int l5, x6] [] σ (some (.long y.1), y.2) := by
  intro n
  induction n with
  | zero => intro l0 l1 l2 l3 l5 x6 σ y h; cases h
  | succ n ih =>
    intro l0 l1 l2 l3 l5 x6 σ y h
    unfold f133_20 at h
    refine rn_steps 2 24 [.ref l0, .int l1, .ref l2, .long l3, .retAddr 1, .int l5, x6] [.int 6, .int l5] rfl ?_
    refine rn_br (c := 6 ≤ l5) rfl rfl decide_eq_true_iff (fun hb => ?_) (fun hb => ?_)
    · rw [if_pos hb] at h
      refine rn_steps 0 93 [.ref l0, .int l1, .ref l2, .long l3, .retAddr 1, .int l5, x6] [] rfl ?_
      exact e133_93 d _ _ _ _ _ _ _ _ h
    · rw [if_neg hb] at h
      refine rn_steps 2 29 [.ref l0, .int l1, .ref l2, .long l3, .retAddr 1, .int l5, x6] [.int l1, .ref l2] rfl ?_
      obtain ⟨u7, hu7, h⟩ := Option.bind_eq_some_iff.mp h
      obtain ⟨y1, hy1, h⟩ := Option.bind_eq_some_iff.mp h
      refine rn_callV [.int l1] rfl rfl ⟨rfl, rfl⟩ hu7 rfl rfl (e48 (d + 1) hy1) ?_
      refine rn_steps 0 32 [.ref l0, .int l1, .ref l2, .long l3, .retAddr 1, .int l5, x6] [.int y1.1] rfl ?_
      refine rn_br (c := y1.1 = 0) rfl rfl decide_eq_true_iff (fun hb => ?_) (fun hb => ?_)
      · rw [if_pos hb] at h
        refine rn_steps 0 57 [.ref l0, .int l1, .ref l2, .long l3, .retAddr 1, .int l5, x6] [] rfl ?_
        exact e133_57 d _ ih _ _ _ _ _ _ _ _ h
      · rw [if_neg hb] at h
        refine rn_steps 2 38 [.ref l0, .int l1, .ref l2, .long l3, .retAddr 1, .int l5, x6] [.int l5, .ref l2] rfl ?_
        obtain ⟨u6, hu6, h⟩ := Option.bind_eq_some_iff.mp h
        obtain ⟨y2, hy2, h⟩ := Option.bind_eq_some_iff.mp h
        refine rn_callV [.int l5] rfl rfl ⟨rfl, rfl⟩ hu6 rfl rfl (e48 (d + 1) hy2) ?_
        refine rn_steps 0 41 [.ref l0, .int l1, .ref l2, .long l3, .retAddr 1, .int l5, x6] [.int y2.1] rfl ?_
        refine rn_br (c := y2.1 = 0) rfl rfl decide_eq_true_iff (fun hb => ?_) (fun hb => ?_)
        · rw [if_pos hb] at h
          refine rn_steps 0 57 [.ref l0, .int l1, .ref l2, .long l3, .retAddr 1, .int l5, x6] [] rfl ?_
          exact e133_57 d _ ih _ _ _ _ _ _ _ _ h
        · rw [if_neg hb] at h
          refine rn_steps 1 45 [.ref l0, .int l1, .ref l2, .long l3, .retAddr 1, .int l5, x6] [.ref l0] rfl ?_
          obtain ⟨r3, hr3, h⟩ := Option.bind_eq_some_iff.mp h
          refine rn_gR (c := 7) (f := 5) rfl rfl ⟨⟨rfl, rfl⟩, rfl⟩ hr3 ?_
          refine rn_steps 2 51 [.ref l0, .int l1, .ref l2, .long l3, .retAddr 1, .int l5, x6] [.int l1, .int l5, .ref r3] rfl ?_
          obtain ⟨u5, hu5, h⟩ := Option.bind_eq_some_iff.mp h
          obtain ⟨y4, hy4, h⟩ := Option.bind_eq_some_iff.mp h
          refine rn_callV [.int l5, .int l1] rfl rfl ⟨rfl, rfl⟩ hu5 rfl rfl (e60 (d + 2) hy4) ?_
          refine rn_steps 1 58 [.ref l0, .int l1, .ref l2, .long l3, .retAddr 1, .int l5, x6] [.int y4.1] rfl ?_
          exact e133_58 d _ ih _ _ _ _ _ _ _ _ _ h
/-- LastAsked.meanOf(ILLastAsked$State;)J -/
noncomputable def f133 (l0 : Nat) (l1 : Int32) (l2 : Nat) (σ : xM) : Option (Int64 × xM) :=
  (gR σ l0 7 5).bind fun r1 =>
  (gR σ l2 4 6).bind fun r2 =>
  (gI σ l2 4 4).bind fun v3 =>
  (cO σ r1 6).bind fun u5 =>
  (f57 r1 r2 v3 σ).bind fun y4 =>
  f133_20 1100 l0 l1 l2 0 0 y4
set_option maxRecDepth 20000 in
set_option maxHeartbeats 1000000 in
theorem e133 (d : Nat) {l0 : Nat} {l1 : Int32} {l2 : Nat} {σ : xM} {y : Int64 × xM} (h : f133 l0 l1 l2 σ = some y) : Rn (d + 3) 133 0 [.ref l0, .int l1, .ref l2, .retAddr 0, .retAddr 0, .retAddr 0, .retAddr 0] [] σ (some (.long y.1), y.2) := by
  unfold f133 at h
  refine rn_steps 1 1 [.ref l0, .int l1, .ref l2, .retAddr 0, .retAddr 0, .retAddr 0, .retAddr 0] [.ref l0] rfl ?_
  obtain ⟨r1, hr1, h⟩ := Option.bind_eq_some_iff.mp h
  refine rn_gR (c := 7) (f := 5) rfl rfl ⟨⟨rfl, rfl⟩, rfl⟩ hr1 ?_
  refine rn_steps 1 5 [.ref l0, .int l1, .ref l2, .retAddr 0, .retAddr 0, .retAddr 0, .retAddr 0] [.ref l2, .ref r1] rfl ?_
  obtain ⟨r2, hr2, h⟩ := Option.bind_eq_some_iff.mp h
  refine rn_gR (c := 4) (f := 6) rfl rfl ⟨⟨rfl, rfl⟩, rfl⟩ hr2 ?_
  refine rn_steps 1 9 [.ref l0, .int l1, .ref l2, .retAddr 0, .retAddr 0, .retAddr 0, .retAddr 0] [.ref l2, .ref r2, .ref r1] rfl ?_
  obtain ⟨v3, hv3, h⟩ := Option.bind_eq_some_iff.mp h
  refine rn_gI (c := 4) (f := 4) rfl rfl ⟨⟨rfl, rfl⟩, Or.inl rfl⟩ hv3 ?_
  refine rn_steps 0 12 [.ref l0, .int l1, .ref l2, .retAddr 0, .retAddr 0, .retAddr 0, .retAddr 0] [.int v3, .ref r2, .ref r1] rfl ?_
  obtain ⟨u5, hu5, h⟩ := Option.bind_eq_some_iff.mp h
  obtain ⟨y4, hy4, h⟩ := Option.bind_eq_some_iff.mp h
  refine rn_callV [.ref r2, .int v3] rfl rfl ⟨rfl, rfl⟩ hu5 rfl rfl (e57 d hy4) ?_
  refine rn_steps 4 20 [.ref l0, .int l1, .ref l2, .long 0, .retAddr 1, .int 0, .retAddr 0] [] rfl ?_
  exact e133_20 d 1100 _ _ _ _ _ _ _ _ h
noncomputable def f136_45 (l4 : Int64) (σ : xM) : Option (Int64 × xM) :=
  some (l4, σ)
set_option maxRecDepth 20000 in
set_option maxHeartbeats 1000000 in
theorem e136_45 (d : Nat) (l4 : Int64) (x0 x1 x2 x3 x6 x7 x8 x9 x10 : Value) (σ : xM) (y : Int64 × xM) (h : f136_45 l4 σ = some y) : Rn (d + 0) 136 45 [x0, x1, x2, x3, .long l4, .retAddr 1, x6, x7, x8, x9, x10] [] σ (some (.long y.1), y.2) := by
  unfold f136_45 at h
  refine rn_steps 1 47 [x0, x1, x2, x3, .long l4, .retAddr 1, x6, x7, x8, x9, x10] [.long l4] rfl ?_
  cases h
  exact rn_ret rfl rfl rfl
noncomputable def f136_9 : Nat → Int64 → Int64 → Int32 → xM → Option (Int64 × xM)
  | 0, _, _, _, _ => none
  | n + 1, l4, l6, l8, σ =>
    if 200 ≤ l8 then
    f136_45 l4 σ
    else
    if (lg_cmp l6 0) = 0 then
    f136_45 l4 σ
    else
    (rJ l4 l6).bind fun v1 =>
    (f136_9 n) l6 v1 (l8 + 1) σ
set_option maxRecDepth 20000 in
set_option maxHeartbeats 1000000 in
theorem e136_9 (d : Nat) : ∀ (n : Nat) (l4 : Int64) (l6 : Int64) (l8 : Int32) (x0 x1 x2 x3 x9 x10 : Value) (σ : xM) (y : Int64 × xM), f136_9 n l4 l6 l8 σ = some y → Rn (d + 0) 136 9 [x0, x1, x2, x3, .long l4, .retAddr 1, .long l6, .retAddr 1, .int l8, x9, x10] [] σ (some (.long y.1), y.2) := by
  intro n
  induction n with
  | zero => intro l4 l6 l8 x0 x1 x2 x3 x9 x10 σ y h; cases h
  | succ n ih =>
    intro l4 l6 l8 x0 x1 x2 x3 x9 x10 σ y h
    unfold f136_9 at h
    refine rn_steps 2 14 [x0, x1, x2, x3, .long l4, .retAddr 1, .long l6, .retAddr 1, .int l8, x9, x10] [.int 200, .int l8] rfl ?_
    refine rn_br (c := 200 ≤ l8) rfl rfl decide_eq_true_iff (fun hb => ?_) (fun hb => ?_)
    · rw [if_pos hb] at h
      refine rn_steps 0 45 [x0, x1, x2, x3, .long l4, .retAddr 1, .long l6, .retAddr 1, .int l8, x9, x10] [] rfl ?_
      exact e136_45 d _ _ _ _ _ _ _ _ _ _ _ _ h
    · rw [if_neg hb] at h
      refine rn_steps 3 21 [x0, x1, x2, x3, .long l4, .retAddr 1, .long l6, .retAddr 1, .int l8, x9, x10] [.int (lg_cmp l6 0)] rfl ?_
      refine rn_br (c := (lg_cmp l6 0) = 0) rfl rfl decide_eq_true_iff (fun hb => ?_) (fun hb => ?_)
      · rw [if_pos hb] at h
        refine rn_steps 0 45 [x0, x1, x2, x3, .long l4, .retAddr 1, .long l6, .retAddr 1, .int l8, x9, x10] [] rfl ?_
        exact e136_45 d _ _ _ _ _ _ _ _ _ _ _ _ h
      · rw [if_neg hb] at h
        refine rn_steps 2 28 [x0, x1, x2, x3, .long l4, .retAddr 1, .long l6, .retAddr 1, .int l8, x9, x10] [.long l6, .long l4] rfl ?_
        obtain ⟨v1, hv1, h⟩ := Option.bind_eq_some_iff.mp h
        refine rn_rJ rfl hv1 ?_
        refine rn_steps 7 9 [x0, x1, x2, x3, .long l6, .retAddr 1, .long v1, .retAddr 1, .int (l8 + 1), .long v1, .retAddr 1] [] rfl ?_
        exact ih _ _ _ _ _ _ _ _ _ _ _ h
/-- LastAsked.commonDivisor(JJ)J -/
noncomputable def f136 (l0 : Int64) (l2 : Int64) (σ : xM) : Option (Int64 × xM) :=
  f136_9 1100 l0 l2 0 σ
set_option maxRecDepth 20000 in
set_option maxHeartbeats 1000000 in
theorem e136 (d : Nat) {l0 : Int64} {l2 : Int64} {σ : xM} {y : Int64 × xM} (h : f136 l0 l2 σ = some y) : Rn (d + 0) 136 0 [.long l0, .retAddr 1, .long l2, .retAddr 1, .retAddr 0, .retAddr 0, .retAddr 0, .retAddr 0, .retAddr 0, .retAddr 0, .retAddr 0] [] σ (some (.long y.1), y.2) := by
  unfold f136 at h
  refine rn_steps 6 9 [.long l0, .retAddr 1, .long l2, .retAddr 1, .long l0, .retAddr 1, .long l2, .retAddr 1, .int 0, .retAddr 0, .retAddr 0] [] rfl ?_
  exact e136_9 d 1100 _ _ _ _ _ _ _ _ _ _ _ h
noncomputable def f135_33 (s0 : Int64) (σ : xM) : Option (Int64 × xM) :=
  some (s0, σ)
set_option maxRecDepth 20000 in
set_option maxHeartbeats 1000000 in
theorem e135_33 (d : Nat) (s0 : Int64) (x0 x1 x2 x3 x4 : Value) (σ : xM) (y : Int64 × xM) (h : f135_33 s0 σ = some y) : Rn (d + 1) 135 33 [x0, x1, x2, x3, x4] [.long s0] σ (some (.long y.1), y.2) := by
  unfold f135_33 at h
  cases h
  exact rn_ret rfl rfl rfl
/-- LastAsked.term(JZ)J -/
noncomputable def f135 (l0 : Int64) (l2 : Int32) (σ : xM) : Option (Int64 × xM) :=
  (f136 1000000000000 l0 σ).bind fun y1 =>
  if 0 < (lg_cmp y1.1 0) then
  if l2 = 0 then
  (dJ l0 y1.1).bind fun v2 =>
  f135_33 v2 y1.2
  else
  (dJ 1000000000000 y1.1).bind fun v3 =>
  f135_33 v3 y1.2
  else
  some ((-1), y1.2)
set_option maxRecDepth 20000 in
set_option maxHeartbeats 1000000 in
theorem e135 (d : Nat) {l0 : Int64} {l2 : Int32} {σ : xM} {y : Int64 × xM} (h : f135 l0 l2 σ = some y) : Rn (d + 1) 135 0 [.long l0, .retAddr 1, .int l2, .retAddr 0, .retAddr 0] [] σ (some (.long y.1), y.2) := by
  unfold f135 at h
  refine rn_steps 2 4 [.long l0, .retAddr 1, .int l2, .retAddr 0, .retAddr 0] [.long l0, .long 1000000000000] rfl ?_
  obtain ⟨y1, hy1, h⟩ := Option.bind_eq_some_iff.mp h
  refine rn_callS [.long 1000000000000, .long l0] rfl rfl rfl ⟨rfl, rfl, rfl⟩ rfl rfl (e136 d hy1) ?_
  refine rn_steps 4 11 [.long l0, .retAddr 1, .int l2, .long y1.1, .retAddr 1] [.int (lg_cmp y1.1 0)] rfl ?_
  refine rn_br (c := 0 < (lg_cmp y1.1 0)) rfl rfl decide_eq_true_iff (fun hb => ?_) (fun hb => ?_)
  · rw [if_pos hb] at h
    refine rn_steps 1 19 [.long l0, .retAddr 1, .int l2, .long y1.1, .retAddr 1] [.int l2] rfl ?_
    refine rn_br (c := l2 = 0) rfl rfl decide_eq_true_iff (fun hb => ?_) (fun hb => ?_)
    · rw [if_pos hb] at h
      refine rn_steps 2 32 [.long l0, .retAddr 1, .int l2, .long y1.1, .retAddr 1] [.long y1.1, .long l0] rfl ?_
      obtain ⟨v2, hv2, h⟩ := Option.bind_eq_some_iff.mp h
      refine rn_dJ rfl hv2 ?_
      refine rn_steps 0 33 [.long l0, .retAddr 1, .int l2, .long y1.1, .retAddr 1] [.long v2] rfl ?_
      exact e135_33 d _ _ _ _ _ _ _ _ h
    · rw [if_neg hb] at h
      refine rn_steps 2 26 [.long l0, .retAddr 1, .int l2, .long y1.1, .retAddr 1] [.long y1.1, .long 1000000000000] rfl ?_
      obtain ⟨v3, hv3, h⟩ := Option.bind_eq_some_iff.mp h
      refine rn_dJ rfl hv3 ?_
      refine rn_steps 1 33 [.long l0, .retAddr 1, .int l2, .long y1.1, .retAddr 1] [.long v3] rfl ?_
      exact e135_33 d _ _ _ _ _ _ _ _ h
  · rw [if_neg hb] at h
    refine rn_steps 1 17 [.long l0, .retAddr 1, .int l2, .long y1.1, .retAddr 1] [.long (-1)] rfl ?_
    cases h
    exact rn_ret rfl rfl rfl
noncomputable def f81_14 (l0 : Nat) (l1 : Int32) (l2 : Int32) (s0 : Int32) (s1 : Nat) (σ : xM) : Option (Int64 × xM) :=
  (cO σ s1 7).bind fun u6 =>
  (f114 s1 s0 σ).bind fun y1 =>
  if y1.1 = 0 then
  (gR y1.2 l0 7 2).bind fun r2 =>
  (cO y1.2 l0 7).bind fun u5 =>
  (f133 l0 l1 r2 y1.2).bind fun y3 =>
  (f135 y3.1 l2 y3.2).bind fun y4 =>
  some (y4.1, y4.2)
  else
  some ((-1), y1.2)
set_option maxRecDepth 20000 in
set_option maxHeartbeats 1000000 in
theorem e81_14 (d : Nat) (l0 : Nat) (l1 : Int32) (l2 : Int32) (s0 : Int32) (s1 : Nat) (σ : xM) (y : Int64 × xM) (h : f81_14 l0 l1 l2 s0 s1 σ = some y) : Rn (d + 4) 81 14 [.ref l0, .int l1, .int l2] [.int s0, .ref s1] σ (some (.long y.1), y.2) := by
  unfold f81_14 at h
  obtain ⟨u6, hu6, h⟩ := Option.bind_eq_some_iff.mp h
  obtain ⟨y1, hy1, h⟩ := Option.bind_eq_some_iff.mp h
  refine rn_callV [.int s0] rfl rfl ⟨rfl, rfl⟩ hu6 rfl rfl (e114 (d + 3) hy1) ?_
  refine rn_steps 0 17 [.ref l0, .int l1, .int l2] [.int y1.1] rfl ?_
  refine rn_br (c := y1.1 = 0) rfl rfl decide_eq_true_iff (fun hb => ?_) (fun hb => ?_)
  · rw [if_pos hb] at h
    refine rn_steps 3 27 [.ref l0, .int l1, .int l2] [.ref l0, .int l1, .ref l0] rfl ?_
    obtain ⟨r2, hr2, h⟩ := Option.bind_eq_some_iff.mp h
    refine rn_gR (c := 7) (f := 2) rfl rfl ⟨⟨rfl, rfl⟩, rfl⟩ hr2 ?_
    refine rn_steps 0 30 [.ref l0, .int l1, .int l2] [.ref r2, .int l1, .ref l0] rfl ?_
    obtain ⟨u5, hu5, h⟩ := Option.bind_eq_some_iff.mp h
    obtain ⟨y3, hy3, h⟩ := Option.bind_eq_some_iff.mp h
    refine rn_callV [.int l1, .ref r2] rfl rfl ⟨rfl, rfl⟩ hu5 rfl rfl (e133 d hy3) ?_
    refine rn_steps 1 34 [.ref l0, .int l1, .int l2] [.int l2, .long y3.1] rfl ?_
    obtain ⟨y4, hy4, h⟩ := Option.bind_eq_some_iff.mp h
    refine rn_callS [.long y3.1, .int l2] rfl rfl rfl ⟨rfl, rfl, rfl⟩ rfl rfl (e135 (d + 2) hy4) ?_
    refine rn_steps 0 37 [.ref l0, .int l1, .int l2] [.long y4.1] rfl ?_
    cases h
    exact rn_ret rfl rfl rfl
  · rw [if_neg hb] at h
    refine rn_steps 1 23 [.ref l0, .int l1, .int l2] [.long (-1)] rfl ?_
    cases h
    exact rn_ret rfl rfl rfl
/-- LastAsked.mean(IZ)J -/
noncomputable def f81 (l0 : Nat) (l1 : Int32) (l2 : Int32) (σ : xM) : Option (Int64 × xM) :=
  (cO σ l0 7).bind fun u2 =>
  (f116 l0 l1 σ).bind fun y1 =>
  if y1.1 = 0 then
  f81_14 l0 l1 l2 1 l0 y1.2
  else
  f81_14 l0 l1 l2 0 l0 y1.2
set_option maxRecDepth 20000 in
set_option maxHeartbeats 1000000 in
theorem e81 (d : Nat) {l0 : Nat} {l1 : Int32} {l2 : Int32} {σ : xM} {y : Int64 × xM} (h : f81 l0 l1 l2 σ = some y) : Rn (d + 4) 81 0 [.ref l0, .int l1, .int l2] [] σ (some (.long y.1), y.2) := by
  unfold f81 at h
  refine rn_steps 3 3 [.ref l0, .int l1, .int l2] [.int l1, .ref l0, .ref l0] rfl ?_
  obtain ⟨u2, hu2, h⟩ := Option.bind_eq_some_iff.mp h
  obtain ⟨y1, hy1, h⟩ := Option.bind_eq_some_iff.mp h
  refine rn_callV [.int l1] rfl rfl ⟨rfl, rfl⟩ hu2 rfl rfl (e116 (d + 3) hy1) ?_
  refine rn_steps 0 6 [.ref l0, .int l1, .int l2] [.int y1.1, .ref l0] rfl ?_
  refine rn_br (c := y1.1 = 0) rfl rfl decide_eq_true_iff (fun hb => ?_) (fun hb => ?_)
  · rw [if_pos hb] at h
    refine rn_steps 1 14 [.ref l0, .int l1, .int l2] [.int 1, .ref l0] rfl ?_
    exact e81_14 d _ _ _ _ _ _ _ h
  · rw [if_neg hb] at h
    refine rn_steps 2 14 [.ref l0, .int l1, .int l2] [.int 0, .ref l0] rfl ?_
    exact e81_14 d _ _ _ _ _ _ _ h
noncomputable def f134_94 (l3 : Int64) (σ : xM) : Option (Int64 × xM) :=
  some (l3, σ)
set_option maxRecDepth 20000 in
set_option maxHeartbeats 1000000 in
theorem e134_94 (d : Nat) (l3 : Int64) (x0 x1 x2 x5 : Value) (σ : xM) (y : Int64 × xM) (h : f134_94 l3 σ = some y) : Rn (d + 4) 134 94 [x0, x1, x2, .long l3, .retAddr 1, x5] [] σ (some (.long y.1), y.2) := by
  unfold f134_94 at h
  refine rn_steps 1 95 [x0, x1, x2, .long l3, .retAddr 1, x5] [.long l3] rfl ?_
  cases h
  exact rn_ret rfl rfl rfl
noncomputable def f134_88 (K31 : Nat → Int32 → Int32 → Int64 → Int32 → xM → Option (Int64 × xM)) (l0 : Nat) (l1 : Int32) (l2 : Int32) (l3 : Int64) (l5 : Int32) (σ : xM) : Option (Int64 × xM) :=
  K31 l0 l1 l2 l3 (l5 + 1) σ
set_option maxRecDepth 20000 in
set_option maxHeartbeats 1000000 in
theorem e134_88 (d : Nat) (K31 : Nat → Int32 → Int32 → Int64 → Int32 → xM → Option (Int64 × xM)) (hK31 : ∀ (l0 : Nat) (l1 : Int32) (l2 : Int32) (l3 : Int64) (l5 : Int32) (σ : xM) (y : Int64 × xM), K31 l0 l1 l2 l3 l5 σ = some y → Rn (d + 4) 134 31 [.ref l0, .int l1, .int l2, .long l3, .retAddr 1, .int l5] [] σ (some (.long y.1), y.2)) (l0 : Nat) (l1 : Int32) (l2 : Int32) (l3 : Int64) (l5 : Int32) (σ : xM) (y : Int64 × xM) (h : f134_88 K31 l0 l1 l2 l3 l5 σ = some y) : Rn (d + 4) 134 88 [.ref l0, .int l1, .int l2, .long l3, .retAddr 1, .int l5] [] σ (some (.long y.1), y.2) := by
  unfold f134_88 at h
  refine rn_steps 2 31 [.ref l0, .int l1, .int l2, .long l3, .retAddr 1, .int (l5 + 1)] [] rfl ?_
  exact hK31 _ _ _ _ _ _ _ h
noncomputable def f134_31 : Nat → Nat → Int32 → Int32 → Int64 → Int32 → xM → Option (Int64 × xM)
  | 0, _, _, _, _, _, _ => none
  | n + 1, l0, l1, l2, l3, l5, σ =>
    if 64 ≤ l5 then
    f134_94 l3 σ
    else
    (cO σ l0 7).bind fun u9 =>
    (f118 l0 l5 σ).bind fun y1 =>
    if y1.1 = 0 then
    f134_88 (f134_31 n) l0 l1 l2 l3 l5 y1.2
    else
    (f124 l5 l1 y1.2).bind fun y2 =>
    if y2.1 = 0 then
    (cO y2.2 l0 7).bind fun u8 =>
    (f131 l0 l1 l5 y2.2).bind fun y3 =>
    if y3.1 < l2 then
    f134_88 (f134_31 n) l0 l1 l2 l3 l5 y3.2
    else
    (gR y3.2 l0 7 2).bind fun r4 =>
    (gI y3.2 r4 4 4).bind fun v5 =>
    (cO y3.2 l0 7).bind fun u7 =>
    (f132 l0 l5 (v5 &&& (l5 ^^^ (-1))) y3.2).bind fun y6 =>
    f134_88 (f134_31 n) l0 l1 l2 (l3 + y6.1) l5 y6.2
    else
    f134_88 (f134_31 n) l0 l1 l2 l3 l5 y2.2
set_option maxRecDepth 20000 in
set_option maxHeartbeats 1000000 in
theorem e134_31 (d : Nat) : ∀ (n : Nat) (l0 : Nat) (l1 : Int32) (l2 : Int32) (l3 : Int64) (l5 : Int32) (σ : xM) (y : Int64 × xM), f134_31 n l0 l1 l2 l3 l5 σ = some y → Rn (d + 4) 134 31 [.ref l0, .int l1, .int l2, .long l3, .retAddr 1, .int l5] [] σ (some (.long y.1), y.2) := by
  intro n
  induction n with
  | zero => intro l0 l1 l2 l3 l5 σ y h; cases h
  | succ n ih =>
    intro l0 l1 l2 l3 l5 σ y h
    unfold f134_31 at h
    refine rn_steps 2 35 [.ref l0, .int l1, .int l2, .long l3, .retAddr 1, .int l5] [.int 64, .int l5] rfl ?_
    refine rn_br (c := 64 ≤ l5) rfl rfl decide_eq_true_iff (fun hb => ?_) (fun hb => ?_)
    · rw [if_pos hb] at h
      refine rn_steps 0 94 [.ref l0, .int l1, .int l2, .long l3, .retAddr 1, .int l5] [] rfl ?_
      exact e134_94 d _ _ _ _ _ _ _ h
    · rw [if_neg hb] at h
      refine rn_steps 2 41 [.ref l0, .int l1, .int l2, .long l3, .retAddr 1, .int l5] [.int l5, .ref l0] rfl ?_
      obtain ⟨u9, hu9, h⟩ := Option.bind_eq_some_iff.mp h
      obtain ⟨y1, hy1, h⟩ := Option.bind_eq_some_iff.mp h
      refine rn_callV [.int l5] rfl rfl ⟨rfl, rfl⟩ hu9 rfl rfl (e118 (d + 3) hy1) ?_
      refine rn_steps 0 44 [.ref l0, .int l1, .int l2, .long l3, .retAddr 1, .int l5] [.int y1.1] rfl ?_
      refine rn_br (c := y1.1 = 0) rfl rfl decide_eq_true_iff (fun hb => ?_) (fun hb => ?_)
      · rw [if_pos hb] at h
        refine rn_steps 0 88 [.ref l0, .int l1, .int l2, .long l3, .retAddr 1, .int l5] [] rfl ?_
        exact e134_88 d _ ih _ _ _ _ _ _ _ h
      · rw [if_neg hb] at h
        refine rn_steps 2 50 [.ref l0, .int l1, .int l2, .long l3, .retAddr 1, .int l5] [.int l1, .int l5] rfl ?_
        obtain ⟨y2, hy2, h⟩ := Option.bind_eq_some_iff.mp h
        refine rn_callS [.int l5, .int l1] rfl rfl rfl ⟨rfl, rfl, rfl⟩ rfl rfl (e124 (d + 3) hy2) ?_
        refine rn_steps 0 53 [.ref l0, .int l1, .int l2, .long l3, .retAddr 1, .int l5] [.int y2.1] rfl ?_
        refine rn_br (c := ¬ y2.1 = 0) rfl rfl decide_eq_true_iff (fun hb => ?_) (fun hb => ?_)
        · rw [if_neg hb] at h
          refine rn_steps 0 88 [.ref l0, .int l1, .int l2, .long l3, .retAddr 1, .int l5] [] rfl ?_
          exact e134_88 d _ ih _ _ _ _ _ _ _ h
        · rw [if_pos (Decidable.not_not.mp hb)] at h
          refine rn_steps 3 60 [.ref l0, .int l1, .int l2, .long l3, .retAddr 1, .int l5] [.int l5, .int l1, .ref l0] rfl ?_
          obtain ⟨u8, hu8, h⟩ := Option.bind_eq_some_iff.mp h
          obtain ⟨y3, hy3, h⟩ := Option.bind_eq_some_iff.mp h
          refine rn_callV [.int l1, .int l5] rfl rfl ⟨rfl, rfl⟩ hu8 rfl rfl (e131 (d + 1) hy3) ?_
          refine rn_steps 1 64 [.ref l0, .int l1, .int l2, .long l3, .retAddr 1, .int l5] [.int l2, .int y3.1] rfl ?_
          refine rn_br (c := y3.1 < l2) rfl rfl decide_eq_true_iff (fun hb => ?_) (fun hb => ?_)
          · rw [if_pos hb] at h
            refine rn_steps 0 88 [.ref l0, .int l1, .int l2, .long l3, .retAddr 1, .int l5] [] rfl ?_
            exact e134_88 d _ ih _ _ _ _ _ _ _ h
          · rw [if_neg hb] at h
            refine rn_steps 4 72 [.ref l0, .int l1, .int l2, .long l3, .retAddr 1, .int l5] [.ref l0, .int l5, .ref l0, .long l3] rfl ?_
            obtain ⟨r4, hr4, h⟩ := Option.bind_eq_some_iff.mp h
            refine rn_gR (c := 7) (f := 2) rfl rfl ⟨⟨rfl, rfl⟩, rfl⟩ hr4 ?_
            refine rn_steps 0 75 [.ref l0, .int l1, .int l2, .long l3, .retAddr 1, .int l5] [.ref r4, .int l5, .ref l0, .long l3] rfl ?_
            obtain ⟨v5, hv5, h⟩ := Option.bind_eq_some_iff.mp h
            refine rn_gI (c := 4) (f := 4) rfl rfl ⟨⟨rfl, rfl⟩, Or.inl rfl⟩ hv5 ?_
            refine rn_steps 4 83 [.ref l0, .int l1, .int l2, .long l3, .retAddr 1, .int l5] [.int (v5 &&& (l5 ^^^ (-1))), .int l5, .ref l0, .long l3] rfl ?_
            obtain ⟨u7, hu7, h⟩ := Option.bind_eq_some_iff.mp h
            obtain ⟨y6, hy6, h⟩ := Option.bind_eq_some_iff.mp h
            refine rn_callV [.int l5, .int (v5 &&& (l5 ^^^ (-1)))] rfl rfl ⟨rfl, rfl⟩ hu7 rfl rfl (e132 (d + 2) hy6) ?_
            refine rn_steps 2 88 [.ref l0, .int l1, .int l2, .long (l3 + y6.1), .retAddr 1, .int l5] [] rfl ?_
            exact e134_88 d _ ih _ _ _ _ _ _ _ h
/-- LastAsked.likelyToHave(II)J -/
noncomputable def f134 (l0 : Nat) (l1 : Int32) (l2 : Int32) (σ : xM) : Option (Int64 × xM) :=
  if l2 = 0 then
  some (1000000000000, σ)
  else
  (gR σ l0 7 2).bind fun r1 =>
  (cO σ r1 4).bind fun u5 =>
  (f48 r1 l1 σ).bind fun y2 =>
  if y2.1 = 0 then
  some (0, y2.2)
  else
  (cO y2.2 l0 7).bind fun u4 =>
  (f129 l0 y2.2).bind fun y3 =>
  f134_31 1100 l0 l1 l2 0 0 y3.2
set_option maxRecDepth 20000 in
set_option maxHeartbeats 1000000 in
theorem e134 (d : Nat) {l0 : Nat} {l1 : Int32} {l2 : Int32} {σ : xM} {y : Int64 × xM} (h : f134 l0 l1 l2 σ = some y) : Rn (d + 4) 134 0 [.ref l0, .int l1, .int l2, .retAddr 0, .retAddr 0, .retAddr 0] [] σ (some (.long y.1), y.2) := by
  unfold f134 at h
  refine rn_steps 1 1 [.ref l0, .int l1, .int l2, .retAddr 0, .retAddr 0, .retAddr 0] [.int l2] rfl ?_
  refine rn_br (c := ¬ l2 = 0) rfl rfl decide_eq_true_iff (fun hb => ?_) (fun hb => ?_)
  · rw [if_neg hb] at h
    refine rn_steps 1 9 [.ref l0, .int l1, .int l2, .retAddr 0, .retAddr 0, .retAddr 0] [.ref l0] rfl ?_
    obtain ⟨r1, hr1, h⟩ := Option.bind_eq_some_iff.mp h
    refine rn_gR (c := 7) (f := 2) rfl rfl ⟨⟨rfl, rfl⟩, rfl⟩ hr1 ?_
    refine rn_steps 1 13 [.ref l0, .int l1, .int l2, .retAddr 0, .retAddr 0, .retAddr 0] [.int l1, .ref r1] rfl ?_
    obtain ⟨u5, hu5, h⟩ := Option.bind_eq_some_iff.mp h
    obtain ⟨y2, hy2, h⟩ := Option.bind_eq_some_iff.mp h
    refine rn_callV [.int l1] rfl rfl ⟨rfl, rfl⟩ hu5 rfl rfl (e48 (d + 2) hy2) ?_
    refine rn_steps 0 16 [.ref l0, .int l1, .int l2, .retAddr 0, .retAddr 0, .retAddr 0] [.int y2.1] rfl ?_
    refine rn_br (c := ¬ y2.1 = 0) rfl rfl decide_eq_true_iff (fun hb => ?_) (fun hb => ?_)
    · rw [if_neg hb] at h
      refine rn_steps 1 22 [.ref l0, .int l1, .int l2, .retAddr 0, .retAddr 0, .retAddr 0] [.ref l0] rfl ?_
      obtain ⟨u4, hu4, h⟩ := Option.bind_eq_some_iff.mp h
      obtain ⟨y3, hy3, h⟩ := Option.bind_eq_some_iff.mp h
      refine rn_callV [] rfl rfl ⟨rfl, rfl⟩ hu4 rfl rfl (e129 d hy3) ?_
      refine rn_steps 5 31 [.ref l0, .int l1, .int l2, .long 0, .retAddr 1, .int 0] [] rfl ?_
      exact e134_31 d 1100 _ _ _ _ _ _ _ h
    · rw [if_pos (Decidable.not_not.mp hb)] at h
      refine rn_steps 1 20 [.ref l0, .int l1, .int l2, .retAddr 0, .retAddr 0, .retAddr 0] [.long 0] rfl ?_
      cases h
      exact rn_ret rfl rfl rfl
  · rw [if_pos (Decidable.not_not.mp hb)] at h
    refine rn_steps 1 7 [.ref l0, .int l1, .int l2, .retAddr 0, .retAddr 0, .retAddr 0] [.long 1000000000000] rfl ?_
    cases h
    exact rn_ret rfl rfl rfl
noncomputable def f82_41 (l0 : Nat) (l1 : Int32) (l2 : Int32) (l3 : Int32) (s0 : Int32) (s1 : Nat) (σ : xM) : Option (Int64 × xM) :=
  (cO σ s1 7).bind fun u5 =>
  (f114 s1 s0 σ).bind fun y1 =>
  if y1.1 = 0 then
  (cO y1.2 l0 7).bind fun u4 =>
  (f134 l0 l1 l2 y1.2).bind fun y2 =>
  (f135 y2.1 l3 y2.2).bind fun y3 =>
  some (y3.1, y3.2)
  else
  some ((-1), y1.2)
set_option maxRecDepth 20000 in
set_option maxHeartbeats 1000000 in
theorem e82_41 (d : Nat) (l0 : Nat) (l1 : Int32) (l2 : Int32) (l3 : Int32) (s0 : Int32) (s1 : Nat) (x4 : Value) (σ : xM) (y : Int64 × xM) (h : f82_41 l0 l1 l2 l3 s0 s1 σ = some y) : Rn (d + 5) 82 41 [.ref l0, .int l1, .int l2, .int l3, x4] [.int s0, .ref s1] σ (some (.long y.1), y.2) := by
  unfold f82_41 at h
  obtain ⟨u5, hu5, h⟩ := Option.bind_eq_some_iff.mp h
  obtain ⟨y1, hy1, h⟩ := Option.bind_eq_some_iff.mp h
  refine rn_callV [.int s0] rfl rfl ⟨rfl, rfl⟩ hu5 rfl rfl (e114 (d + 4) hy1) ?_
  refine rn_steps 0 44 [.ref l0, .int l1, .int l2, .int l3, x4] [.int y1.1] rfl ?_
  refine rn_br (c := y1.1 = 0) rfl rfl decide_eq_true_iff (fun hb => ?_) (fun hb => ?_)
  · rw [if_pos hb] at h
    refine rn_steps 3 54 [.ref l0, .int l1, .int l2, .int l3, x4] [.int l2, .int l1, .ref l0] rfl ?_
    obtain ⟨u4, hu4, h⟩ := Option.bind_eq_some_iff.mp h
    obtain ⟨y2, hy2, h⟩ := Option.bind_eq_some_iff.mp h
    refine rn_callV [.int l1, .int l2] rfl rfl ⟨rfl, rfl⟩ hu4 rfl rfl (e134 d hy2) ?_
    refine rn_steps 1 58 [.ref l0, .int l1, .int l2, .int l3, x4] [.int l3, .long y2.1] rfl ?_
    obtain ⟨y3, hy3, h⟩ := Option.bind_eq_some_iff.mp h
    refine rn_callS [.long y2.1, .int l3] rfl rfl rfl ⟨rfl, rfl, rfl⟩ rfl rfl (e135 (d + 3) hy3) ?_
    refine rn_steps 0 61 [.ref l0, .int l1, .int l2, .int l3, x4] [.long y3.1] rfl ?_
    cases h
    exact rn_ret rfl rfl rfl
  · rw [if_neg hb] at h
    refine rn_steps 1 50 [.ref l0, .int l1, .int l2, .int l3, x4] [.long (-1)] rfl ?_
    cases h
    exact rn_ret rfl rfl rfl
noncomputable def f82_16 (l0 : Nat) (l1 : Int32) (l2 : Int32) (l3 : Int32) (s0 : Int32) (σ : xM) : Option (Int64 × xM) :=
  (cO σ l0 7).bind fun u2 =>
  (f116 l0 l1 σ).bind fun y1 =>
  if y1.1 = 0 then
  f82_41 l0 l1 l2 l3 1 l0 y1.2
  else
  if s0 = 0 then
  f82_41 l0 l1 l2 l3 2 l0 y1.2
  else
  f82_41 l0 l1 l2 l3 0 l0 y1.2
set_option maxRecDepth 20000 in
set_option maxHeartbeats 1000000 in
theorem e82_16 (d : Nat) (l0 : Nat) (l1 : Int32) (l2 : Int32) (l3 : Int32) (s0 : Int32) (x4 : Value) (σ : xM) (y : Int64 × xM) (h : f82_16 l0 l1 l2 l3 s0 σ = some y) : Rn (d + 5) 82 16 [.ref l0, .int l1, .int l2, .int l3, x4] [.int s0] σ (some (.long y.1), y.2) := by
  unfold f82_16 at h
  refine rn_steps 4 21 [.ref l0, .int l1, .int l2, .int l3, .int s0] [.int l1, .ref l0, .ref l0] rfl ?_
  obtain ⟨u2, hu2, h⟩ := Option.bind_eq_some_iff.mp h
  obtain ⟨y1, hy1, h⟩ := Option.bind_eq_some_iff.mp h
  refine rn_callV [.int l1] rfl rfl ⟨rfl, rfl⟩ hu2 rfl rfl (e116 (d + 4) hy1) ?_
  refine rn_steps 0 24 [.ref l0, .int l1, .int l2, .int l3, .int s0] [.int y1.1, .ref l0] rfl ?_
  refine rn_br (c := ¬ y1.1 = 0) rfl rfl decide_eq_true_iff (fun hb => ?_) (fun hb => ?_)
  · rw [if_neg hb] at h
    refine rn_steps 1 33 [.ref l0, .int l1, .int l2, .int l3, .int s0] [.int s0, .ref l0] rfl ?_
    refine rn_br (c := s0 = 0) rfl rfl decide_eq_true_iff (fun hb => ?_) (fun hb => ?_)
    · rw [if_pos hb] at h
      refine rn_steps 1 41 [.ref l0, .int l1, .int l2, .int l3, .int s0] [.int 2, .ref l0] rfl ?_
      exact e82_41 d _ _ _ _ _ _ _ _ _ h
    · rw [if_neg hb] at h
      refine rn_steps 2 41 [.ref l0, .int l1, .int l2, .int l3, .int s0] [.int 0, .ref l0] rfl ?_
      exact e82_41 d _ _ _ _ _ _ _ _ _ h
  · rw [if_pos (Decidable.not_not.mp hb)] at h
    refine rn_steps 2 41 [.ref l0, .int l1, .int l2, .int l3, .int s0] [.int 1, .ref l0] rfl ?_
    exact e82_41 d _ _ _ _ _ _ _ _ _ h
noncomputable def f82_15 (l0 : Nat) (l1 : Int32) (l2 : Int32) (l3 : Int32) (σ : xM) : Option (Int64 × xM) :=
  f82_16 l0 l1 l2 l3 0 σ
set_option maxRecDepth 20000 in
set_option maxHeartbeats 1000000 in
theorem e82_15 (d : Nat) (l0 : Nat) (l1 : Int32) (l2 : Int32) (l3 : Int32) (x4 : Value) (σ : xM) (y : Int64 × xM) (h : f82_15 l0 l1 l2 l3 σ = some y) : Rn (d + 5) 82 15 [.ref l0, .int l1, .int l2, .int l3, x4] [] σ (some (.long y.1), y.2) := by
  unfold f82_15 at h
  refine rn_steps 1 16 [.ref l0, .int l1, .int l2, .int l3, x4] [.int 0] rfl ?_
  exact e82_16 d _ _ _ _ _ _ _ _ h
/-- LastAsked.odds(IIZ)J -/
noncomputable def f82 (l0 : Nat) (l1 : Int32) (l2 : Int32) (l3 : Int32) (σ : xM) : Option (Int64 × xM) :=
  if l2 < 0 then
  f82_15 l0 l1 l2 l3 σ
  else
  if 594 < l2 then
  f82_15 l0 l1 l2 l3 σ
  else
  f82_16 l0 l1 l2 l3 1 σ
set_option maxRecDepth 20000 in
set_option maxHeartbeats 1000000 in
theorem e82 (d : Nat) {l0 : Nat} {l1 : Int32} {l2 : Int32} {l3 : Int32} {σ : xM} {y : Int64 × xM} (h : f82 l0 l1 l2 l3 σ = some y) : Rn (d + 5) 82 0 [.ref l0, .int l1, .int l2, .int l3, .retAddr 0] [] σ (some (.long y.1), y.2) := by
  unfold f82 at h
  refine rn_steps 1 1 [.ref l0, .int l1, .int l2, .int l3, .retAddr 0] [.int l2] rfl ?_
  refine rn_br (c := l2 < 0) rfl rfl decide_eq_true_iff (fun hb => ?_) (fun hb => ?_)
  · rw [if_pos hb] at h
    refine rn_steps 0 15 [.ref l0, .int l1, .int l2, .int l3, .retAddr 0] [] rfl ?_
    exact e82_15 d _ _ _ _ _ _ _ h
  · rw [if_neg hb] at h
    refine rn_steps 2 8 [.ref l0, .int l1, .int l2, .int l3, .retAddr 0] [.int 594, .int l2] rfl ?_
    refine rn_br (c := 594 < l2) rfl rfl decide_eq_true_iff (fun hb => ?_) (fun hb => ?_)
    · rw [if_pos hb] at h
      refine rn_steps 0 15 [.ref l0, .int l1, .int l2, .int l3, .retAddr 0] [] rfl ?_
      exact e82_15 d _ _ _ _ _ _ _ h
    · rw [if_neg hb] at h
      refine rn_steps 2 16 [.ref l0, .int l1, .int l2, .int l3, .retAddr 0] [.int 1] rfl ?_
      exact e82_16 d _ _ _ _ _ _ _ _ h
noncomputable def f83_55 (l3 : Int32) (s0 : Int64) (σ : xM) : Option (Int64 × xM) :=
  (f135 s0 l3 σ).bind fun y1 =>
  some (y1.1, y1.2)
set_option maxRecDepth 20000 in
set_option maxHeartbeats 1000000 in
theorem e83_55 (d : Nat) (l3 : Int32) (s0 : Int64) (x0 x1 x2 x4 : Value) (σ : xM) (y : Int64 × xM) (h : f83_55 l3 s0 σ = some y) : Rn (d + 4) 83 55 [x0, x1, x2, .int l3, x4] [.long s0] σ (some (.long y.1), y.2) := by
  unfold f83_55 at h
  refine rn_steps 1 56 [x0, x1, x2, .int l3, x4] [.int l3, .long s0] rfl ?_
  obtain ⟨y1, hy1, h⟩ := Option.bind_eq_some_iff.mp h
  refine rn_callS [.long s0, .int l3] rfl rfl rfl ⟨rfl, rfl, rfl⟩ rfl rfl (e135 (d + 2) hy1) ?_
  refine rn_steps 0 59 [x0, x1, x2, .int l3, x4] [.long y1.1] rfl ?_
  cases h
  exact rn_ret rfl rfl rfl
noncomputable def f83_15 (l0 : Nat) (l1 : Int32) (l2 : Int32) (l3 : Int32) (s0 : Int32) (s1 : Nat) (σ : xM) : Option (Int64 × xM) :=
  (cO σ s1 7).bind fun u8 =>
  (f114 s1 s0 σ).bind fun y1 =>
  if y1.1 = 0 then
  (cO y1.2 l0 7).bind fun u7 =>
  (f129 l0 y1.2).bind fun y2 =>
  (cO y2.2 y2.1 6).bind fun u6 =>
  (f60 y2.1 l1 l2 y2.2).bind fun y3 =>
  if y3.1 = (-1) then
  f83_55 l3 0 y3.2
  else
  (cO y3.2 l0 7).bind fun u5 =>
  (f132 l0 y3.1 (1 <<< (l2 &&& 31)) y3.2).bind fun y4 =>
  f83_55 l3 y4.1 y4.2
  else
  some ((-1), y1.2)
set_option maxRecDepth 20000 in
set_option maxHeartbeats 1000000 in
theorem e83_15 (d : Nat) (l0 : Nat) (l1 : Int32) (l2 : Int32) (l3 : Int32) (s0 : Int32) (s1 : Nat) (x4 : Value) (σ : xM) (y : Int64 × xM) (h : f83_15 l0 l1 l2 l3 s0 s1 σ = some y) : Rn (d + 4) 83 15 [.ref l0, .int l1, .int l2, .int l3, x4] [.int s0, .ref s1] σ (some (.long y.1), y.2) := by
  unfold f83_15 at h
  obtain ⟨u8, hu8, h⟩ := Option.bind_eq_some_iff.mp h
  obtain ⟨y1, hy1, h⟩ := Option.bind_eq_some_iff.mp h
  refine rn_callV [.int s0] rfl rfl ⟨rfl, rfl⟩ hu8 rfl rfl (e114 (d + 3) hy1) ?_
  refine rn_steps 0 18 [.ref l0, .int l1, .int l2, .int l3, x4] [.int y1.1] rfl ?_
  refine rn_br (c := y1.1 = 0) rfl rfl decide_eq_true_iff (fun hb => ?_) (fun hb => ?_)
  · rw [if_pos hb] at h
    refine rn_steps 1 26 [.ref l0, .int l1, .int l2, .int l3, x4] [.ref l0] rfl ?_
    obtain ⟨u7, hu7, h⟩ := Option.bind_eq_some_iff.mp h
    obtain ⟨y2, hy2, h⟩ := Option.bind_eq_some_iff.mp h
    refine rn_callV [] rfl rfl ⟨rfl, rfl⟩ hu7 rfl rfl (e129 d hy2) ?_
    refine rn_steps 2 31 [.ref l0, .int l1, .int l2, .int l3, x4] [.int l2, .int l1, .ref y2.1] rfl ?_
    obtain ⟨u6, hu6, h⟩ := Option.bind_eq_some_iff.mp h
    obtain ⟨y3, hy3, h⟩ := Option.bind_eq_some_iff.mp h
    refine rn_callV [.int l1, .int l2] rfl rfl ⟨rfl, rfl⟩ hu6 rfl rfl (e60 (d + 3) hy3) ?_
    refine rn_steps 3 39 [.ref l0, .int l1, .int l2, .int l3, .int y3.1] [.int (-1), .int y3.1] rfl ?_
    refine rn_br (c := ¬ y3.1 = (-1)) rfl rfl decide_eq_true_iff (fun hb => ?_) (fun hb => ?_)
    · rw [if_neg hb] at h
      refine rn_steps 5 52 [.ref l0, .int l1, .int l2, .int l3, .int y3.1] [.int (1 <<< (l2 &&& 31)), .int y3.1, .ref l0] rfl ?_
      obtain ⟨u5, hu5, h⟩ := Option.bind_eq_some_iff.mp h
      obtain ⟨y4, hy4, h⟩ := Option.bind_eq_some_iff.mp h
      refine rn_callV [.int y3.1, .int (1 <<< (l2 &&& 31))] rfl rfl ⟨rfl, rfl⟩ hu5 rfl rfl (e132 (d + 2) hy4) ?_
      refine rn_steps 0 55 [.ref l0, .int l1, .int l2, .int l3, .int y3.1] [.long y4.1] rfl ?_
      exact e83_55 d _ _ _ _ _ _ _ _ h
    · rw [if_pos (Decidable.not_not.mp hb)] at h
      refine rn_steps 2 55 [.ref l0, .int l1, .int l2, .int l3, .int y3.1] [.long 0] rfl ?_
      exact e83_55 d _ _ _ _ _ _ _ _ h
  · rw [if_neg hb] at h
    refine rn_steps 1 24 [.ref l0, .int l1, .int l2, .int l3, x4] [.long (-1)] rfl ?_
    cases h
    exact rn_ret rfl rfl rfl
/-- LastAsked.passes(IIZ)J -/
noncomputable def f83 (l0 : Nat) (l1 : Int32) (l2 : Int32) (l3 : Int32) (σ : xM) : Option (Int64 × xM) :=
  (cO σ l0 7).bind fun u2 =>
  (f117 l0 l1 l2 σ).bind fun y1 =>
  if y1.1 = 0 then
  f83_15 l0 l1 l2 l3 1 l0 y1.2
  else
  f83_15 l0 l1 l2 l3 0 l0 y1.2
set_option maxRecDepth 20000 in
set_option maxHeartbeats 1000000 in
theorem e83 (d : Nat) {l0 : Nat} {l1 : Int32} {l2 : Int32} {l3 : Int32} {σ : xM} {y : Int64 × xM} (h : f83 l0 l1 l2 l3 σ = some y) : Rn (d + 4) 83 0 [.ref l0, .int l1, .int l2, .int l3, .retAddr 0] [] σ (some (.long y.1), y.2) := by
  unfold f83 at h
  refine rn_steps 4 4 [.ref l0, .int l1, .int l2, .int l3, .retAddr 0] [.int l2, .int l1, .ref l0, .ref l0] rfl ?_
  obtain ⟨u2, hu2, h⟩ := Option.bind_eq_some_iff.mp h
  obtain ⟨y1, hy1, h⟩ := Option.bind_eq_some_iff.mp h
  refine rn_callV [.int l1, .int l2] rfl rfl ⟨rfl, rfl⟩ hu2 rfl rfl (e117 (d + 2) hy1) ?_
  refine rn_steps 0 7 [.ref l0, .int l1, .int l2, .int l3, .retAddr 0] [.int y1.1, .ref l0] rfl ?_
  refine rn_br (c := y1.1 = 0) rfl rfl decide_eq_true_iff (fun hb => ?_) (fun hb => ?_)
  · rw [if_pos hb] at h
    refine rn_steps 1 15 [.ref l0, .int l1, .int l2, .int l3, .retAddr 0] [.int 1, .ref l0] rfl ?_
    exact e83_15 d _ _ _ _ _ _ _ _ _ h
  · rw [if_neg hb] at h
    refine rn_steps 2 15 [.ref l0, .int l1, .int l2, .int l3, .retAddr 0] [.int 0, .ref l0] rfl ?_
    exact e83_15 d _ _ _ _ _ _ _ _ _ h
noncomputable def f84_87 (l1 : Int32) (l2 : Int64) (σ : xM) : Option (Int64 × xM) :=
  (f135 l2 l1 σ).bind fun y1 =>
  some (y1.1, y1.2)
set_option maxRecDepth 20000 in
set_option maxHeartbeats 1000000 in
theorem e84_87 (d : Nat) (l1 : Int32) (l2 : Int64) (x0 x4 : Value) (σ : xM) (y : Int64 × xM) (h : f84_87 l1 l2 σ = some y) : Rn (d + 4) 84 87 [x0, .int l1, .long l2, .retAddr 1, x4] [] σ (some (.long y.1), y.2) := by
  unfold f84_87 at h
  refine rn_steps 2 89 [x0, .int l1, .long l2, .retAddr 1, x4] [.int l1, .long l2] rfl ?_
  obtain ⟨y1, hy1, h⟩ := Option.bind_eq_some_iff.mp h
  refine rn_callS [.long l2, .int l1] rfl rfl rfl ⟨rfl, rfl, rfl⟩ rfl rfl (e135 (d + 2) hy1) ?_
  refine rn_steps 0 92 [x0, .int l1, .long l2, .retAddr 1, x4] [.long y1.1] rfl ?_
  cases h
  exact rn_ret rfl rfl rfl
noncomputable def f84_81 (K33 : Nat → Int32 → Int64 → Int32 → xM → Option (Int64 × xM)) (l0 : Nat) (l1 : Int32) (l2 : Int64) (l4 : Int32) (σ : xM) : Option (Int64 × xM) :=
  K33 l0 l1 l2 (l4 + 1) σ
set_option maxRecDepth 20000 in
set_option maxHeartbeats 1000000 in
theorem e84_81 (d : Nat) (K33 : Nat → Int32 → Int64 → Int32 → xM → Option (Int64 × xM)) (hK33 : ∀ (l0 : Nat) (l1 : Int32) (l2 : Int64) (l4 : Int32) (σ : xM) (y : Int64 × xM), K33 l0 l1 l2 l4 σ = some y → Rn (d + 4) 84 33 [.ref l0, .int l1, .long l2, .retAddr 1, .int l4] [] σ (some (.long y.1), y.2)) (l0 : Nat) (l1 : Int32) (l2 : Int64) (l4 : Int32) (σ : xM) (y : Int64 × xM) (h : f84_81 K33 l0 l1 l2 l4 σ = some y) : Rn (d + 4) 84 81 [.ref l0, .int l1, .long l2, .retAddr 1, .int l4] [] σ (some (.long y.1), y.2) := by
  unfold f84_81 at h
  refine rn_steps 2 33 [.ref l0, .int l1, .long l2, .retAddr 1, .int (l4 + 1)] [] rfl ?_
  exact hK33 _ _ _ _ _ _ h
noncomputable def f84_33 : Nat → Nat → Int32 → Int64 → Int32 → xM → Option (Int64 × xM)
  | 0, _, _, _, _, _ => none
  | n + 1, l0, l1, l2, l4, σ =>
    if 6 ≤ l4 then
    f84_87 l1 l2 σ
    else
    (gR σ l0 7 2).bind fun r1 =>
    (cO σ r1 4).bind fun u11 =>
    (f48 r1 l4 σ).bind fun y2 =>
    if y2.1 = 0 then
    f84_81 (f84_33 n) l0 l1 l2 l4 y2.2
    else
    (gR y2.2 l0 7 2).bind fun r3 =>
    (gR y2.2 r3 4 5).bind fun r4 =>
    (aI y2.2 r4 l4).bind fun v5 =>
    (gR y2.2 l0 7 5).bind fun r6 =>
    (cO y2.2 r6 6).bind fun u10 =>
    (f61 r6 l4 y2.2).bind fun y7 =>
    (cO y7.2 l0 7).bind fun u9 =>
    (f132 l0 y7.1 0 y7.2).bind fun y8 =>
    f84_81 (f84_33 n) l0 l1 (l2 + (v5.toInt64 * y8.1)) l4 y8.2
set_option maxRecDepth 20000 in
set_option maxHeartbeats 1000000 in
theorem e84_33 (d : Nat) : ∀ (n : Nat) (l0 : Nat) (l1 : Int32) (l2 : Int64) (l4 : Int32) (σ : xM) (y : Int64 × xM), f84_33 n l0 l1 l2 l4 σ = some y → Rn (d + 4) 84 33 [.ref l0, .int l1, .long l2, .retAddr 1, .int l4] [] σ (some (.long y.1), y.2) := by
  intro n
  induction n with
  | zero => intro l0 l1 l2 l4 σ y h; cases h
  | succ n ih =>
    intro l0 l1 l2 l4 σ y h
    unfold f84_33 at h
    refine rn_steps 2 37 [.ref l0, .int l1, .long l2, .retAddr 1, .int l4] [.int 6, .int l4] rfl ?_
    refine rn_br (c := 6 ≤ l4) rfl rfl decide_eq_true_iff (fun hb => ?_) (fun hb => ?_)
    · rw [if_pos hb] at h
      refine rn_steps 0 87 [.ref l0, .int l1, .long l2, .retAddr 1, .int l4] [] rfl ?_
      exact e84_87 d _ _ _ _ _ _ h
    · rw [if_neg hb] at h
      refine rn_steps 1 41 [.ref l0, .int l1, .long l2, .retAddr 1, .int l4] [.ref l0] rfl ?_
      obtain ⟨r1, hr1, h⟩ := Option.bind_eq_some_iff.mp h
      refine rn_gR (c := 7) (f := 2) rfl rfl ⟨⟨rfl, rfl⟩, rfl⟩ hr1 ?_
      refine rn_steps 1 46 [.ref l0, .int l1, .long l2, .retAddr 1, .int l4] [.int l4, .ref r1] rfl ?_
      obtain ⟨u11, hu11, h⟩ := Option.bind_eq_some_iff.mp h
      obtain ⟨y2, hy2, h⟩ := Option.bind_eq_some_iff.mp h
      refine rn_callV [.int l4] rfl rfl ⟨rfl, rfl⟩ hu11 rfl rfl (e48 (d + 2) hy2) ?_
      refine rn_steps 0 49 [.ref l0, .int l1, .long l2, .retAddr 1, .int l4] [.int y2.1] rfl ?_
      refine rn_br (c := y2.1 = 0) rfl rfl decide_eq_true_iff (fun hb => ?_) (fun hb => ?_)
      · rw [if_pos hb] at h
        refine rn_steps 0 81 [.ref l0, .int l1, .long l2, .retAddr 1, .int l4] [] rfl ?_
        exact e84_81 d _ ih _ _ _ _ _ _ h
      · rw [if_neg hb] at h
        refine rn_steps 2 54 [.ref l0, .int l1, .long l2, .retAddr 1, .int l4] [.ref l0, .long l2] rfl ?_
        obtain ⟨r3, hr3, h⟩ := Option.bind_eq_some_iff.mp h
        refine rn_gR (c := 7) (f := 2) rfl rfl ⟨⟨rfl, rfl⟩, rfl⟩ hr3 ?_
        refine rn_steps 0 57 [.ref l0, .int l1, .long l2, .retAddr 1, .int l4] [.ref r3, .long l2] rfl ?_
        obtain ⟨r4, hr4, h⟩ := Option.bind_eq_some_iff.mp h
        refine rn_gR (c := 4) (f := 5) rfl rfl ⟨⟨rfl, rfl⟩, rfl⟩ hr4 ?_
        refine rn_steps 1 62 [.ref l0, .int l1, .long l2, .retAddr 1, .int l4] [.int l4, .ref r4, .long l2] rfl ?_
        obtain ⟨v5, hv5, h⟩ := Option.bind_eq_some_iff.mp h
        refine rn_aI rfl hv5 ?_
        refine rn_steps 3 66 [.ref l0, .int l1, .long l2, .retAddr 1, .int l4] [.ref l0, .ref l0, .long v5.toInt64, .long l2] rfl ?_
        obtain ⟨r6, hr6, h⟩ := Option.bind_eq_some_iff.mp h
        refine rn_gR (c := 7) (f := 5) rfl rfl ⟨⟨rfl, rfl⟩, rfl⟩ hr6 ?_
        refine rn_steps 1 71 [.ref l0, .int l1, .long l2, .retAddr 1, .int l4] [.int l4, .ref r6, .ref l0, .long v5.toInt64, .long l2] rfl ?_
        obtain ⟨u10, hu10, h⟩ := Option.bind_eq_some_iff.mp h
        obtain ⟨y7, hy7, h⟩ := Option.bind_eq_some_iff.mp h
        refine rn_callV [.int l4] rfl rfl ⟨rfl, rfl⟩ hu10 rfl rfl (e61 (d + 3) hy7) ?_
        refine rn_steps 1 75 [.ref l0, .int l1, .long l2, .retAddr 1, .int l4] [.int 0, .int y7.1, .ref l0, .long v5.toInt64, .long l2] rfl ?_
        obtain ⟨u9, hu9, h⟩ := Option.bind_eq_some_iff.mp h
        obtain ⟨y8, hy8, h⟩ := Option.bind_eq_some_iff.mp h
        refine rn_callV [.int y7.1, .int 0] rfl rfl ⟨rfl, rfl⟩ hu9 rfl rfl (e132 (d + 2) hy8) ?_
        refine rn_steps 3 81 [.ref l0, .int l1, .long (l2 + (v5.toInt64 * y8.1)), .retAddr 1, .int l4] [] rfl ?_
        exact e84_81 d _ ih _ _ _ _ _ _ h
noncomputable def f84_13 (l0 : Nat) (l1 : Int32) (s0 : Int32) (s1 : Nat) (σ : xM) : Option (Int64 × xM) :=
  (cO σ s1 7).bind fun u4 =>
  (f114 s1 s0 σ).bind fun y1 =>
  if y1.1 = 0 then
  (cO y1.2 l0 7).bind fun u3 =>
  (f129 l0 y1.2).bind fun y2 =>
  f84_33 1100 l0 l1 0 0 y2.2
  else
  some ((-1), y1.2)
set_option maxRecDepth 20000 in
set_option maxHeartbeats 1000000 in
theorem e84_13 (d : Nat) (l0 : Nat) (l1 : Int32) (s0 : Int32) (s1 : Nat) (x2 x3 x4 : Value) (σ : xM) (y : Int64 × xM) (h : f84_13 l0 l1 s0 s1 σ = some y) : Rn (d + 4) 84 13 [.ref l0, .int l1, x2, x3, x4] [.int s0, .ref s1] σ (some (.long y.1), y.2) := by
  unfold f84_13 at h
  obtain ⟨u4, hu4, h⟩ := Option.bind_eq_some_iff.mp h
  obtain ⟨y1, hy1, h⟩ := Option.bind_eq_some_iff.mp h
  refine rn_callV [.int s0] rfl rfl ⟨rfl, rfl⟩ hu4 rfl rfl (e114 (d + 3) hy1) ?_
  refine rn_steps 0 16 [.ref l0, .int l1, x2, x3, x4] [.int y1.1] rfl ?_
  refine rn_br (c := y1.1 = 0) rfl rfl decide_eq_true_iff (fun hb => ?_) (fun hb => ?_)
  · rw [if_pos hb] at h
    refine rn_steps 1 24 [.ref l0, .int l1, x2, x3, x4] [.ref l0] rfl ?_
    obtain ⟨u3, hu3, h⟩ := Option.bind_eq_some_iff.mp h
    obtain ⟨y2, hy2, h⟩ := Option.bind_eq_some_iff.mp h
    refine rn_callV [] rfl rfl ⟨rfl, rfl⟩ hu3 rfl rfl (e129 d hy2) ?_
    refine rn_steps 5 33 [.ref l0, .int l1, .long 0, .retAddr 1, .int 0] [] rfl ?_
    exact e84_33 d 1100 _ _ _ _ _ _ h
  · rw [if_neg hb] at h
    refine rn_steps 1 22 [.ref l0, .int l1, x2, x3, x4] [.long (-1)] rfl ?_
    cases h
    exact rn_ret rfl rfl rfl
/-- LastAsked.catMean(Z)J -/
noncomputable def f84 (l0 : Nat) (l1 : Int32) (σ : xM) : Option (Int64 × xM) :=
  (cO σ l0 7).bind fun u2 =>
  (f115 l0 σ).bind fun y1 =>
  if y1.1 = 0 then
  f84_13 l0 l1 1 l0 y1.2
  else
  f84_13 l0 l1 0 l0 y1.2
set_option maxRecDepth 20000 in
set_option maxHeartbeats 1000000 in
theorem e84 (d : Nat) {l0 : Nat} {l1 : Int32} {σ : xM} {y : Int64 × xM} (h : f84 l0 l1 σ = some y) : Rn (d + 4) 84 0 [.ref l0, .int l1, .retAddr 0, .retAddr 0, .retAddr 0] [] σ (some (.long y.1), y.2) := by
  unfold f84 at h
  refine rn_steps 2 2 [.ref l0, .int l1, .retAddr 0, .retAddr 0, .retAddr 0] [.ref l0, .ref l0] rfl ?_
  obtain ⟨u2, hu2, h⟩ := Option.bind_eq_some_iff.mp h
  obtain ⟨y1, hy1, h⟩ := Option.bind_eq_some_iff.mp h
  refine rn_callV [] rfl rfl ⟨rfl, rfl⟩ hu2 rfl rfl (e115 (d + 3) hy1) ?_
  refine rn_steps 0 5 [.ref l0, .int l1, .retAddr 0, .retAddr 0, .retAddr 0] [.int y1.1, .ref l0] rfl ?_
  refine rn_br (c := y1.1 = 0) rfl rfl decide_eq_true_iff (fun hb => ?_) (fun hb => ?_)
  · rw [if_pos hb] at h
    refine rn_steps 1 13 [.ref l0, .int l1, .retAddr 0, .retAddr 0, .retAddr 0] [.int 1, .ref l0] rfl ?_
    exact e84_13 d _ _ _ _ _ _ _ _ _ h
  · rw [if_neg hb] at h
    refine rn_steps 2 13 [.ref l0, .int l1, .retAddr 0, .retAddr 0, .retAddr 0] [.int 0, .ref l0] rfl ?_
    exact e84_13 d _ _ _ _ _ _ _ _ _ h
noncomputable def f120_36 (s0 : Int32) (σ : xM) : Option (Int32 × xM) :=
  some (s0, σ)
set_option maxRecDepth 20000 in
set_option maxHeartbeats 1000000 in
theorem e120_36 (d : Nat) (s0 : Int32) (x0 x1 x2 : Value) (σ : xM) (y : Int32 × xM) (h : f120_36 s0 σ = some y) : Rn (d + 2) 120 36 [x0, x1, x2] [.int s0] σ (some (.int y.1), y.2) := by
  unfold f120_36 at h
  cases h
  exact rn_ret rfl rfl rfl
/-- LastAsked.seekerOr(IZ)I -/
noncomputable def f120 (l0 : Nat) (l1 : Int32) (l2 : Int32) (σ : xM) : Option (Int32 × xM) :=
  (cO σ l0 7).bind fun u5 =>
  (f116 l0 l1 σ).bind fun y1 =>
  if y1.1 = 0 then
  f120_36 1 y1.2
  else
  if l2 = 0 then
  f120_36 2 y1.2
  else
  (gR y1.2 l0 7 2).bind fun r2 =>
  (cO y1.2 r2 4).bind fun u4 =>
  (f48 r2 l1 y1.2).bind fun y3 =>
  if y3.1 = 0 then
  f120_36 5 y3.2
  else
  f120_36 0 y3.2
set_option maxRecDepth 20000 in
set_option maxHeartbeats 1000000 in
theorem e120 (d : Nat) {l0 : Nat} {l1 : Int32} {l2 : Int32} {σ : xM} {y : Int32 × xM} (h : f120 l0 l1 l2 σ = some y) : Rn (d + 2) 120 0 [.ref l0, .int l1, .int l2] [] σ (some (.int y.1), y.2) := by
  unfold f120 at h
  refine rn_steps 2 2 [.ref l0, .int l1, .int l2] [.int l1, .ref l0] rfl ?_
  obtain ⟨u5, hu5, h⟩ := Option.bind_eq_some_iff.mp h
  obtain ⟨y1, hy1, h⟩ := Option.bind_eq_some_iff.mp h
  refine rn_callV [.int l1] rfl rfl ⟨rfl, rfl⟩ hu5 rfl rfl (e116 (d + 1) hy1) ?_
  refine rn_steps 0 5 [.ref l0, .int l1, .int l2] [.int y1.1] rfl ?_
  refine rn_br (c := ¬ y1.1 = 0) rfl rfl decide_eq_true_iff (fun hb => ?_) (fun hb => ?_)
  · rw [if_neg hb] at h
    refine rn_steps 1 13 [.ref l0, .int l1, .int l2] [.int l2] rfl ?_
    refine rn_br (c := ¬ l2 = 0) rfl rfl decide_eq_true_iff (fun hb => ?_) (fun hb => ?_)
    · rw [if_neg hb] at h
      refine rn_steps 1 21 [.ref l0, .int l1, .int l2] [.ref l0] rfl ?_
      obtain ⟨r2, hr2, h⟩ := Option.bind_eq_some_iff.mp h
      refine rn_gR (c := 7) (f := 2) rfl rfl ⟨⟨rfl, rfl⟩, rfl⟩ hr2 ?_
      refine rn_steps 1 25 [.ref l0, .int l1, .int l2] [.int l1, .ref r2] rfl ?_
      obtain ⟨u4, hu4, h⟩ := Option.bind_eq_some_iff.mp h
      obtain ⟨y3, hy3, h⟩ := Option.bind_eq_some_iff.mp h
      refine rn_callV [.int l1] rfl rfl ⟨rfl, rfl⟩ hu4 rfl rfl (e48 d hy3) ?_
      refine rn_steps 0 28 [.ref l0, .int l1, .int l2] [.int y3.1] rfl ?_
      refine rn_br (c := y3.1 = 0) rfl rfl decide_eq_true_iff (fun hb => ?_) (fun hb => ?_)
      · rw [if_pos hb] at h
        refine rn_steps 1 36 [.ref l0, .int l1, .int l2] [.int 5] rfl ?_
        exact e120_36 d _ _ _ _ _ _ h
      · rw [if_neg hb] at h
        refine rn_steps 2 36 [.ref l0, .int l1, .int l2] [.int 0] rfl ?_
        exact e120_36 d _ _ _ _ _ _ h
    · rw [if_pos (Decidable.not_not.mp hb)] at h
      refine rn_steps 2 36 [.ref l0, .int l1, .int l2] [.int 2] rfl ?_
      exact e120_36 d _ _ _ _ _ _ h
  · rw [if_pos (Decidable.not_not.mp hb)] at h
    refine rn_steps 2 36 [.ref l0, .int l1, .int l2] [.int 1] rfl ?_
    exact e120_36 d _ _ _ _ _ _ h
noncomputable def f138_50 (σ : xM) : Option (Int32 × xM) :=
  rZ 1 σ
set_option maxRecDepth 20000 in
set_option maxHeartbeats 1000000 in
theorem e138_50 (d : Nat) (x0 x1 x2 x3 x4 : Value) (σ : xM) (y : Int32 × xM) (h : f138_50 σ = some y) : Rn (d + 1) 138 50 [x0, x1, x2, x3, x4] [] σ (some (.int y.1), y.2) := by
  unfold f138_50 at h
  refine rn_steps 1 51 [x0, x1, x2, x3, x4] [.int 1] rfl ?_
  exact rn_retZ rfl rfl h
noncomputable def f138_39 (K5 : Int32 → Int32 → Int32 → xM → Option (Int32 × xM)) (l0 : Int32) (l3 : Int32) (l4 : Int32) (σ : xM) : Option (Int32 × xM) :=
  (dI l3 10).bind fun v1 =>
  K5 l0 l4 v1 σ
set_option maxRecDepth 20000 in
set_option maxHeartbeats 1000000 in
theorem e138_39 (d : Nat) (K5 : Int32 → Int32 → Int32 → xM → Option (Int32 × xM)) (hK5 : ∀ (l0 : Int32) (l2 : Int32) (l3 : Int32) (x1 x4 : Value) (σ : xM) (y : Int32 × xM), K5 l0 l2 l3 σ = some y → Rn (d + 1) 138 5 [.int l0, x1, .int l2, .int l3, x4] [] σ (some (.int y.1), y.2)) (l0 : Int32) (l3 : Int32) (l4 : Int32) (x1 x2 : Value) (σ : xM) (y : Int32 × xM) (h : f138_39 K5 l0 l3 l4 σ = some y) : Rn (d + 1) 138 39 [.int l0, x1, x2, .int l3, .int l4] [] σ (some (.int y.1), y.2) := by
  unfold f138_39 at h
  refine rn_steps 4 45 [.int l0, x1, .int l4, .int l3, .int l4] [.int 10, .int l3] rfl ?_
  obtain ⟨v1, hv1, h⟩ := Option.bind_eq_some_iff.mp h
  refine rn_dI rfl hv1 ?_
  refine rn_steps 2 5 [.int l0, x1, .int l4, .int v1, .int l4] [] rfl ?_
  exact hK5 _ _ _ _ _ _ _ h
noncomputable def f138_37 (K5 : Int32 → Int32 → Int32 → xM → Option (Int32 × xM)) (σ : xM) : Option (Int32 × xM) :=
  rZ 0 σ
set_option maxRecDepth 20000 in
set_option maxHeartbeats 1000000 in
theorem e138_37 (d : Nat) (K5 : Int32 → Int32 → Int32 → xM → Option (Int32 × xM)) (hK5 : ∀ (l0 : Int32) (l2 : Int32) (l3 : Int32) (x1 x4 : Value) (σ : xM) (y : Int32 × xM), K5 l0 l2 l3 σ = some y → Rn (d + 1) 138 5 [.int l0, x1, .int l2, .int l3, x4] [] σ (some (.int y.1), y.2)) (x0 x1 x2 x3 x4 : Value) (σ : xM) (y : Int32 × xM) (h : f138_37 K5 σ = some y) : Rn (d + 1) 138 37 [x0, x1, x2, x3, x4] [] σ (some (.int y.1), y.2) := by
  unfold f138_37 at h
  refine rn_steps 1 38 [x0, x1, x2, x3, x4] [.int 0] rfl ?_
  exact rn_retZ rfl rfl h
noncomputable def f138_5 : Nat → Int32 → Int32 → Int32 → xM → Option (Int32 × xM)
  | 0, _, _, _, _ => none
  | n + 1, l0, l2, l3, σ =>
    if l3 ≤ 0 then
    f138_50 σ
    else
    (rI l3 10).bind fun v1 =>
    if l2 < v1 then
    f138_37 (f138_5 n) σ
    else
    if v1 = 0 then
    f138_39 (f138_5 n) l0 l3 v1 σ
    else
    (f124 l0 (v1 - 1) σ).bind fun y2 =>
    if y2.1 = 0 then
    f138_37 (f138_5 n) y2.2
    else
    f138_39 (f138_5 n) l0 l3 v1 y2.2
set_option maxRecDepth 20000 in
set_option maxHeartbeats 1000000 in
theorem e138_5 (d : Nat) : ∀ (n : Nat) (l0 : Int32) (l2 : Int32) (l3 : Int32) (x1 x4 : Value) (σ : xM) (y : Int32 × xM), f138_5 n l0 l2 l3 σ = some y → Rn (d + 1) 138 5 [.int l0, x1, .int l2, .int l3, x4] [] σ (some (.int y.1), y.2) := by
  intro n
  induction n with
  | zero => intro l0 l2 l3 x1 x4 σ y h; cases h
  | succ n ih =>
    intro l0 l2 l3 x1 x4 σ y h
    unfold f138_5 at h
    refine rn_steps 1 6 [.int l0, x1, .int l2, .int l3, x4] [.int l3] rfl ?_
    refine rn_br (c := l3 ≤ 0) rfl rfl decide_eq_true_iff (fun hb => ?_) (fun hb => ?_)
    · rw [if_pos hb] at h
      refine rn_steps 0 50 [.int l0, x1, .int l2, .int l3, x4] [] rfl ?_
      exact e138_50 d _ _ _ _ _ _ _ h
    · rw [if_neg hb] at h
      refine rn_steps 2 12 [.int l0, x1, .int l2, .int l3, x4] [.int 10, .int l3] rfl ?_
      obtain ⟨v1, hv1, h⟩ := Option.bind_eq_some_iff.mp h
      refine rn_rI rfl hv1 ?_
      refine rn_steps 3 18 [.int l0, x1, .int l2, .int l3, .int v1] [.int l2, .int v1] rfl ?_
      refine rn_br (c := l2 < v1) rfl rfl decide_eq_true_iff (fun hb => ?_) (fun hb => ?_)
      · rw [if_pos hb] at h
        refine rn_steps 0 37 [.int l0, x1, .int l2, .int l3, .int v1] [] rfl ?_
        exact e138_37 d _ ih _ _ _ _ _ _ _ h
      · rw [if_neg hb] at h
        refine rn_steps 1 23 [.int l0, x1, .int l2, .int l3, .int v1] [.int v1] rfl ?_
        refine rn_br (c := v1 = 0) rfl rfl decide_eq_true_iff (fun hb => ?_) (fun hb => ?_)
        · rw [if_pos hb] at h
          refine rn_steps 0 39 [.int l0, x1, .int l2, .int l3, .int v1] [] rfl ?_
          exact e138_39 d _ ih _ _ _ _ _ _ _ h
        · rw [if_neg hb] at h
          refine rn_steps 4 31 [.int l0, x1, .int l2, .int l3, .int v1] [.int (v1 - 1), .int l0] rfl ?_
          obtain ⟨y2, hy2, h⟩ := Option.bind_eq_some_iff.mp h
          refine rn_callS [.int l0, .int (v1 - 1)] rfl rfl rfl ⟨rfl, rfl, rfl⟩ rfl rfl (e124 d hy2) ?_
          refine rn_steps 0 34 [.int l0, x1, .int l2, .int l3, .int v1] [.int y2.1] rfl ?_
          refine rn_br (c := ¬ y2.1 = 0) rfl rfl decide_eq_true_iff (fun hb => ?_) (fun hb => ?_)
          · rw [if_neg hb] at h
            refine rn_steps 0 39 [.int l0, x1, .int l2, .int l3, .int v1] [] rfl ?_
            exact e138_39 d _ ih _ _ _ _ _ _ _ h
          · rw [if_pos (Decidable.not_not.mp hb)] at h
            refine rn_steps 0 37 [.int l0, x1, .int l2, .int l3, .int v1] [] rfl ?_
            exact e138_37 d _ ih _ _ _ _ _ _ _ h
/-- LastAsked.mayBeFirst(II)Z -/
noncomputable def f138 (l0 : Int32) (l1 : Int32) (σ : xM) : Option (Int32 × xM) :=
  f138_5 1100 l0 9 l1 σ
set_option maxRecDepth 20000 in
set_option maxHeartbeats 1000000 in
theorem e138 (d : Nat) {l0 : Int32} {l1 : Int32} {σ : xM} {y : Int32 × xM} (h : f138 l0 l1 σ = some y) : Rn (d + 1) 138 0 [.int l0, .int l1, .retAddr 0, .retAddr 0, .retAddr 0] [] σ (some (.int y.1), y.2) := by
  unfold f138 at h
  refine rn_steps 4 5 [.int l0, .int l1, .int 9, .int l1, .retAddr 0] [] rfl ?_
  exact e138_5 d 1100 _ _ _ _ _ _ _ h
noncomputable def f139_66 (l0 : Nat) (l1 : Int32) (σ : xM) : Option (Int64 × xM) :=
  (gR σ l0 7 3).bind fun r1 =>
  (cO σ l0 7).bind fun u3 =>
  (f133 l0 l1 r1 σ).bind fun y2 =>
  some (y2.1, y2.2)
set_option maxRecDepth 20000 in
set_option maxHeartbeats 1000000 in
theorem e139_66 (d : Nat) (l0 : Nat) (l1 : Int32) (x2 x3 x4 : Value) (σ : xM) (y : Int64 × xM) (h : f139_66 l0 l1 σ = some y) : Rn (d + 4) 139 66 [.ref l0, .int l1, x2, x3, x4] [] σ (some (.long y.1), y.2) := by
  unfold f139_66 at h
  refine rn_steps 3 69 [.ref l0, .int l1, x2, x3, x4] [.ref l0, .int l1, .ref l0] rfl ?_
  obtain ⟨r1, hr1, h⟩ := Option.bind_eq_some_iff.mp h
  refine rn_gR (c := 7) (f := 3) rfl rfl ⟨⟨rfl, rfl⟩, rfl⟩ hr1 ?_
  refine rn_steps 0 72 [.ref l0, .int l1, x2, x3, x4] [.ref r1, .int l1, .ref l0] rfl ?_
  obtain ⟨u3, hu3, h⟩ := Option.bind_eq_some_iff.mp h
  obtain ⟨y2, hy2, h⟩ := Option.bind_eq_some_iff.mp h
  refine rn_callV [.int l1, .ref r1] rfl rfl ⟨rfl, rfl⟩ hu3 rfl rfl (e133 d hy2) ?_
  refine rn_steps 0 75 [.ref l0, .int l1, x2, x3, x4] [.long y2.1] rfl ?_
  cases h
  exact rn_ret rfl rfl rfl
noncomputable def f139_58 (K14 : Nat → Int32 → Int32 → Int32 → xM → Option (Int64 × xM)) (l0 : Nat) (l1 : Int32) (l2 : Int32) (l3 : Int32) (σ : xM) : Option (Int64 × xM) :=
  (dI l3 10).bind fun v1 =>
  K14 l0 l1 l2 v1 σ
set_option maxRecDepth 20000 in
set_option maxHeartbeats 1000000 in
theorem e139_58 (d : Nat) (K14 : Nat → Int32 → Int32 → Int32 → xM → Option (Int64 × xM)) (hK14 : ∀ (l0 : Nat) (l1 : Int32) (l2 : Int32) (l3 : Int32) (x4 : Value) (σ : xM) (y : Int64 × xM), K14 l0 l1 l2 l3 σ = some y → Rn (d + 4) 139 14 [.ref l0, .int l1, .int l2, .int l3, x4] [] σ (some (.long y.1), y.2)) (l0 : Nat) (l1 : Int32) (l2 : Int32) (l3 : Int32) (x4 : Value) (σ : xM) (y : Int64 × xM) (h : f139_58 K14 l0 l1 l2 l3 σ = some y) : Rn (d + 4) 139 58 [.ref l0, .int l1, .int l2, .int l3, x4] [] σ (some (.long y.1), y.2) := by
  unfold f139_58 at h
  refine rn_steps 2 61 [.ref l0, .int l1, .int l2, .int l3, x4] [.int 10, .int l3] rfl ?_
  obtain ⟨v1, hv1, h⟩ := Option.bind_eq_some_iff.mp h
  refine rn_dI rfl hv1 ?_
  refine rn_steps 2 14 [.ref l0, .int l1, .int l2, .int v1, x4] [] rfl ?_
  exact hK14 _ _ _ _ _ _ _ h
noncomputable def f139_14 : Nat → Nat → Int32 → Int32 → Int32 → xM → Option (Int64 × xM)
  | 0, _, _, _, _, _ => none
  | n + 1, l0, l1, l2, l3, σ =>
    if l3 ≤ 0 then
    f139_66 l0 l1 σ
    else
    (dI l2 l3).bind fun v1 =>
    (rI v1 10).bind fun v2 =>
    if v2 ≤ 0 then
    f139_58 (f139_14 n) l0 l1 l2 l3 σ
    else
    if 6 < v2 then
    f139_58 (f139_14 n) l0 l1 l2 l3 σ
    else
    (gR σ l0 7 3).bind fun r3 =>
    (gR σ l0 7 1).bind fun r4 =>
    (gI σ r4 0 1).bind fun v5 =>
    (cO σ r3 4).bind fun u7 =>
    (f49 r3 l1 (v2 - 1) v5 σ).bind fun y6 =>
    f139_58 (f139_14 n) l0 l1 l2 l3 y6.2
set_option maxRecDepth 20000 in
set_option maxHeartbeats 1000000 in
theorem e139_14 (d : Nat) : ∀ (n : Nat) (l0 : Nat) (l1 : Int32) (l2 : Int32) (l3 : Int32) (x4 : Value) (σ : xM) (y : Int64 × xM), f139_14 n l0 l1 l2 l3 σ = some y → Rn (d + 4) 139 14 [.ref l0, .int l1, .int l2, .int l3, x4] [] σ (some (.long y.1), y.2) := by
  intro n
  induction n with
  | zero => intro l0 l1 l2 l3 x4 σ y h; cases h
  | succ n ih =>
    intro l0 l1 l2 l3 x4 σ y h
    unfold f139_14 at h
    refine rn_steps 1 15 [.ref l0, .int l1, .int l2, .int l3, x4] [.int l3] rfl ?_
    refine rn_br (c := l3 ≤ 0) rfl rfl decide_eq_true_iff (fun hb => ?_) (fun hb => ?_)
    · rw [if_pos hb] at h
      refine rn_steps 0 66 [.ref l0, .int l1, .int l2, .int l3, x4] [] rfl ?_
      exact e139_66 d _ _ _ _ _ _ _ h
    · rw [if_neg hb] at h
      refine rn_steps 2 20 [.ref l0, .int l1, .int l2, .int l3, x4] [.int l3, .int l2] rfl ?_
      obtain ⟨v1, hv1, h⟩ := Option.bind_eq_some_iff.mp h
      refine rn_dI rfl hv1 ?_
      refine rn_steps 1 23 [.ref l0, .int l1, .int l2, .int l3, x4] [.int 10, .int v1] rfl ?_
      obtain ⟨v2, hv2, h⟩ := Option.bind_eq_some_iff.mp h
      refine rn_rI rfl hv2 ?_
      refine rn_steps 2 28 [.ref l0, .int l1, .int l2, .int l3, .int v2] [.int v2] rfl ?_
      refine rn_br (c := v2 ≤ 0) rfl rfl decide_eq_true_iff (fun hb => ?_) (fun hb => ?_)
      · rw [if_pos hb] at h
        refine rn_steps 0 58 [.ref l0, .int l1, .int l2, .int l3, .int v2] [] rfl ?_
        exact e139_58 d _ ih _ _ _ _ _ _ _ h
      · rw [if_neg hb] at h
        refine rn_steps 2 35 [.ref l0, .int l1, .int l2, .int l3, .int v2] [.int 6, .int v2] rfl ?_
        refine rn_br (c := 6 < v2) rfl rfl decide_eq_true_iff (fun hb => ?_) (fun hb => ?_)
        · rw [if_pos hb] at h
          refine rn_steps 0 58 [.ref l0, .int l1, .int l2, .int l3, .int v2] [] rfl ?_
          exact e139_58 d _ ih _ _ _ _ _ _ _ h
        · rw [if_neg hb] at h
          refine rn_steps 1 39 [.ref l0, .int l1, .int l2, .int l3, .int v2] [.ref l0] rfl ?_
          obtain ⟨r3, hr3, h⟩ := Option.bind_eq_some_iff.mp h
          refine rn_gR (c := 7) (f := 3) rfl rfl ⟨⟨rfl, rfl⟩, rfl⟩ hr3 ?_
          refine rn_steps 5 48 [.ref l0, .int l1, .int l2, .int l3, .int v2] [.ref l0, .int (v2 - 1), .int l1, .ref r3] rfl ?_
          obtain ⟨r4, hr4, h⟩ := Option.bind_eq_some_iff.mp h
          refine rn_gR (c := 7) (f := 1) rfl rfl ⟨⟨rfl, rfl⟩, rfl⟩ hr4 ?_
          refine rn_steps 0 51 [.ref l0, .int l1, .int l2, .int l3, .int v2] [.ref r4, .int (v2 - 1), .int l1, .ref r3] rfl ?_
          obtain ⟨v5, hv5, h⟩ := Option.bind_eq_some_iff.mp h
          refine rn_gI (c := 0) (f := 1) rfl rfl ⟨⟨rfl, rfl⟩, Or.inl rfl⟩ hv5 ?_
          refine rn_steps 0 54 [.ref l0, .int l1, .int l2, .int l3, .int v2] [.int v5, .int (v2 - 1), .int l1, .ref r3] rfl ?_
          obtain ⟨u7, hu7, h⟩ := Option.bind_eq_some_iff.mp h
          obtain ⟨y6, hy6, h⟩ := Option.bind_eq_some_iff.mp h
          refine rn_callV [.int l1, .int (v2 - 1), .int v5] rfl rfl ⟨rfl, rfl⟩ hu7 rfl rfl (e49 (d + 2) hy6) ?_
          refine rn_steps 1 58 [.ref l0, .int l1, .int l2, .int l3, .int v2] [] rfl ?_
          exact e139_58 d _ ih _ _ _ _ _ _ _ h
/-- LastAsked.meanByRow(II)J -/
noncomputable def f139 (l0 : Nat) (l1 : Int32) (l2 : Int32) (σ : xM) : Option (Int64 × xM) :=
  (gR σ l0 7 3).bind fun r1 =>
  (gR σ l0 7 2).bind fun r2 =>
  (cO σ r1 4).bind fun u4 =>
  (f47 r1 r2 σ).bind fun y3 =>
  f139_14 1100 l0 l1 l2 100 y3
set_option maxRecDepth 20000 in
set_option maxHeartbeats 1000000 in
theorem e139 (d : Nat) {l0 : Nat} {l1 : Int32} {l2 : Int32} {σ : xM} {y : Int64 × xM} (h : f139 l0 l1 l2 σ = some y) : Rn (d + 4) 139 0 [.ref l0, .int l1, .int l2, .retAddr 0, .retAddr 0] [] σ (some (.long y.1), y.2) := by
  unfold f139 at h
  refine rn_steps 1 1 [.ref l0, .int l1, .int l2, .retAddr 0, .retAddr 0] [.ref l0] rfl ?_
  obtain ⟨r1, hr1, h⟩ := Option.bind_eq_some_iff.mp h
  refine rn_gR (c := 7) (f := 3) rfl rfl ⟨⟨rfl, rfl⟩, rfl⟩ hr1 ?_
  refine rn_steps 1 5 [.ref l0, .int l1, .int l2, .retAddr 0, .retAddr 0] [.ref l0, .ref r1] rfl ?_
  obtain ⟨r2, hr2, h⟩ := Option.bind_eq_some_iff.mp h
  refine rn_gR (c := 7) (f := 2) rfl rfl ⟨⟨rfl, rfl⟩, rfl⟩ hr2 ?_
  refine rn_steps 0 8 [.ref l0, .int l1, .int l2, .retAddr 0, .retAddr 0] [.ref r2, .ref r1] rfl ?_
  obtain ⟨u4, hu4, h⟩ := Option.bind_eq_some_iff.mp h
  obtain ⟨y3, hy3, h⟩ := Option.bind_eq_some_iff.mp h
  refine rn_callV [.ref r2] rfl rfl ⟨rfl, rfl⟩ hu4 rfl rfl (e47 (d + 2) hy3) ?_
  refine rn_steps 2 14 [.ref l0, .int l1, .int l2, .int 100, .retAddr 0] [] rfl ?_
  exact e139_14 d 1100 _ _ _ _ _ _ _ h
noncomputable def f137_99 (l5 : Int32) (σ : xM) : Option (Int32 × xM) :=
  some (l5, σ)
set_option maxRecDepth 20000 in
set_option maxHeartbeats 1000000 in
theorem e137_99 (d : Nat) (l5 : Int32) (x0 x1 x2 x3 x4 x6 x7 x8 x9 x10 : Value) (σ : xM) (y : Int32 × xM) (h : f137_99 l5 σ = some y) : Rn (d + 5) 137 99 [x0, x1, x2, x3, x4, .int l5, x6, x7, x8, x9, x10] [] σ (some (.int y.1), y.2) := by
  unfold f137_99 at h
  refine rn_steps 1 101 [x0, x1, x2, x3, x4, .int l5, x6, x7, x8, x9, x10] [.int l5] rfl ?_
  cases h
  exact rn_ret rfl rfl rfl
noncomputable def f137_93 (K46 : Nat → Int32 → Int32 → Int32 → Int32 → Int64 → Int32 → xM → Option (Int32 × xM)) (l0 : Nat) (l1 : Int32) (l3 : Int32) (l4 : Int32) (l5 : Int32) (l6 : Int64) (l8 : Int32) (σ : xM) : Option (Int32 × xM) :=
  K46 l0 l1 l3 l4 l5 l6 (l8 + 1) σ
set_option maxRecDepth 20000 in
set_option maxHeartbeats 1000000 in
theorem e137_93 (d : Nat) (K46 : Nat → Int32 → Int32 → Int32 → Int32 → Int64 → Int32 → xM → Option (Int32 × xM)) (hK46 : ∀ (l0 : Nat) (l1 : Int32) (l3 : Int32) (l4 : Int32) (l5 : Int32) (l6 : Int64) (l8 : Int32) (x2 x9 x10 : Value) (σ : xM) (y : Int32 × xM), K46 l0 l1 l3 l4 l5 l6 l8 σ = some y → Rn (d + 5) 137 46 [.ref l0, .int l1, x2, .int l3, .int l4, .int l5, .long l6, .retAddr 1, .int l8, x9, x10] [] σ (some (.int y.1), y.2)) (l0 : Nat) (l1 : Int32) (l3 : Int32) (l4 : Int32) (l5 : Int32) (l6 : Int64) (l8 : Int32) (x2 x9 x10 : Value) (σ : xM) (y : Int32 × xM) (h : f137_93 K46 l0 l1 l3 l4 l5 l6 l8 σ = some y) : Rn (d + 5) 137 93 [.ref l0, .int l1, x2, .int l3, .int l4, .int l5, .long l6, .retAddr 1, .int l8, x9, x10] [] σ (some (.int y.1), y.2) := by
  unfold f137_93 at h
  refine rn_steps 2 46 [.ref l0, .int l1, x2, .int l3, .int l4, .int l5, .long l6, .retAddr 1, .int (l8 + 1), x9, x10] [] rfl ?_
  exact hK46 _ _ _ _ _ _ _ _ _ _ _ _ h
noncomputable def f137_75 (K46 : Nat → Int32 → Int32 → Int32 → Int32 → Int64 → Int32 → xM → Option (Int32 × xM)) (l0 : Nat) (l1 : Int32) (l3 : Int32) (l4 : Int32) (l5 : Int32) (l6 : Int64) (l8 : Int32) (s0 : Int64) (σ : xM) : Option (Int32 × xM) :=
  if (lg_cmp s0 l6) ≤ 0 then
  f137_93 K46 l0 l1 l3 l4 l5 l6 l8 σ
  else
  f137_93 K46 l0 l1 l3 l4 l8 s0 l8 σ
set_option maxRecDepth 20000 in
set_option maxHeartbeats 1000000 in
theorem e137_75 (d : Nat) (K46 : Nat → Int32 → Int32 → Int32 → Int32 → Int64 → Int32 → xM → Option (Int32 × xM)) (hK46 : ∀ (l0 : Nat) (l1 : Int32) (l3 : Int32) (l4 : Int32) (l5 : Int32) (l6 : Int64) (l8 : Int32) (x2 x9 x10 : Value) (σ : xM) (y : Int32 × xM), K46 l0 l1 l3 l4 l5 l6 l8 σ = some y → Rn (d + 5) 137 46 [.ref l0, .int l1, x2, .int l3, .int l4, .int l5, .long l6, .retAddr 1, .int l8, x9, x10] [] σ (some (.int y.1), y.2)) (l0 : Nat) (l1 : Int32) (l3 : Int32) (l4 : Int32) (l5 : Int32) (l6 : Int64) (l8 : Int32) (s0 : Int64) (x2 x9 x10 : Value) (σ : xM) (y : Int32 × xM) (h : f137_75 K46 l0 l1 l3 l4 l5 l6 l8 s0 σ = some y) : Rn (d + 5) 137 75 [.ref l0, .int l1, x2, .int l3, .int l4, .int l5, .long l6, .retAddr 1, .int l8, x9, x10] [.long s0] σ (some (.int y.1), y.2) := by
  unfold f137_75 at h
  refine rn_steps 4 82 [.ref l0, .int l1, x2, .int l3, .int l4, .int l5, .long l6, .retAddr 1, .int l8, .long s0, .retAddr 1] [.int (lg_cmp s0 l6)] rfl ?_
  refine rn_br (c := (lg_cmp s0 l6) ≤ 0) rfl rfl decide_eq_true_iff (fun hb => ?_) (fun hb => ?_)
  · rw [if_pos hb] at h
    refine rn_steps 0 93 [.ref l0, .int l1, x2, .int l3, .int l4, .int l5, .long l6, .retAddr 1, .int l8, .long s0, .retAddr 1] [] rfl ?_
    exact e137_93 d _ hK46 _ _ _ _ _ _ _ _ _ _ _ _ h
  · rw [if_neg hb] at h
    refine rn_steps 4 93 [.ref l0, .int l1, x2, .int l3, .int l4, .int l8, .long s0, .retAddr 1, .int l8, .long s0, .retAddr 1] [] rfl ?_
    exact e137_93 d _ hK46 _ _ _ _ _ _ _ _ _ _ _ _ h
noncomputable def f137_46 : Nat → Nat → Int32 → Int32 → Int32 → Int32 → Int64 → Int32 → xM → Option (Int32 × xM)
  | 0, _, _, _, _, _, _, _, _ => none
  | n + 1, l0, l1, l3, l4, l5, l6, l8, σ =>
    if l3 ≤ l8 then
    f137_99 l5 σ
    else
    (f138 l4 l8 σ).bind fun y1 =>
    if y1.1 = 0 then
    f137_75 (f137_46 n) l0 l1 l3 l4 l5 l6 l8 (-1) y1.2
    else
    (cO y1.2 l0 7).bind fun u3 =>
    (f139 l0 l1 l8 y1.2).bind fun y2 =>
    f137_75 (f137_46 n) l0 l1 l3 l4 l5 l6 l8 y2.1 y2.2
set_option maxRecDepth 20000 in
set_option maxHeartbeats 1000000 in
theorem e137_46 (d : Nat) : ∀ (n : Nat) (l0 : Nat) (l1 : Int32) (l3 : Int32) (l4 : Int32) (l5 : Int32) (l6 : Int64) (l8 : Int32) (x2 x9 x10 : Value) (σ : xM) (y : Int32 × xM), f137_46 n l0 l1 l3 l4 l5 l6 l8 σ = some y → Rn (d + 5) 137 46 [.ref l0, .int l1, x2, .int l3, .int l4, .int l5, .long l6, .retAddr 1, .int l8, x9, x10] [] σ (some (.int y.1), y.2) := by
  intro n
  induction n with
  | zero => intro l0 l1 l3 l4 l5 l6 l8 x2 x9 x10 σ y h; cases h
  | succ n ih =>
    intro l0 l1 l3 l4 l5 l6 l8 x2 x9 x10 σ y h
    unfold f137_46 at h
    refine rn_steps 2 49 [.ref l0, .int l1, x2, .int l3, .int l4, .int l5, .long l6, .retAddr 1, .int l8, x9, x10] [.int l3, .int l8] rfl ?_
    refine rn_br (c := l3 ≤ l8) rfl rfl decide_eq_true_iff (fun hb => ?_) (fun hb => ?_)
    · rw [if_pos hb] at h
      refine rn_steps 0 99 [.ref l0, .int l1, x2, .int l3, .int l4, .int l5, .long l6, .retAddr 1, .int l8, x9, x10] [] rfl ?_
      exact e137_99 d _ _ _ _ _ _ _ _ _ _ _ _ _ h
    · rw [if_neg hb] at h
      refine rn_steps 2 56 [.ref l0, .int l1, x2, .int l3, .int l4, .int l5, .long l6, .retAddr 1, .int l8, x9, x10] [.int l8, .int l4] rfl ?_
      obtain ⟨y1, hy1, h⟩ := Option.bind_eq_some_iff.mp h
      refine rn_callS [.int l4, .int l8] rfl rfl rfl ⟨rfl, rfl, rfl⟩ rfl rfl (e138 (d + 3) hy1) ?_
      refine rn_steps 0 59 [.ref l0, .int l1, x2, .int l3, .int l4, .int l5, .long l6, .retAddr 1, .int l8, x9, x10] [.int y1.1] rfl ?_
      refine rn_br (c := y1.1 = 0) rfl rfl decide_eq_true_iff (fun hb => ?_) (fun hb => ?_)
      · rw [if_pos hb] at h
        refine rn_steps 1 75 [.ref l0, .int l1, x2, .int l3, .int l4, .int l5, .long l6, .retAddr 1, .int l8, x9, x10] [.long (-1)] rfl ?_
        exact e137_75 d _ ih _ _ _ _ _ _ _ _ _ _ _ _ _ h
      · rw [if_neg hb] at h
        refine rn_steps 3 66 [.ref l0, .int l1, x2, .int l3, .int l4, .int l5, .long l6, .retAddr 1, .int l8, x9, x10] [.int l8, .int l1, .ref l0] rfl ?_
        obtain ⟨u3, hu3, h⟩ := Option.bind_eq_some_iff.mp h
        obtain ⟨y2, hy2, h⟩ := Option.bind_eq_some_iff.mp h
        refine rn_callV [.int l1, .int l8] rfl rfl ⟨rfl, rfl⟩ hu3 rfl rfl (e139 d hy2) ?_
        refine rn_steps 1 75 [.ref l0, .int l1, x2, .int l3, .int l4, .int l5, .long l6, .retAddr 1, .int l8, x9, x10] [.long y2.1] rfl ?_
        exact e137_75 d _ ih _ _ _ _ _ _ _ _ _ _ _ _ _ h
noncomputable def f137_28 (l0 : Nat) (l1 : Int32) (l3 : Int32) (σ : xM) : Option (Int32 × xM) :=
  (cO σ l0 7).bind fun u2 =>
  (f126 l0 l1 σ).bind fun y1 =>
  f137_46 1100 l0 l1 l3 y1.1 0 (-1) 0 y1.2
set_option maxRecDepth 20000 in
set_option maxHeartbeats 1000000 in
theorem e137_28 (d : Nat) (l0 : Nat) (l1 : Int32) (l3 : Int32) (x2 x4 x5 x6 x7 x8 x9 x10 : Value) (σ : xM) (y : Int32 × xM) (h : f137_28 l0 l1 l3 σ = some y) : Rn (d + 5) 137 28 [.ref l0, .int l1, x2, .int l3, x4, x5, x6, x7, x8, x9, x10] [] σ (some (.int y.1), y.2) := by
  unfold f137_28 at h
  refine rn_steps 2 30 [.ref l0, .int l1, x2, .int l3, x4, x5, x6, x7, x8, x9, x10] [.int l1, .ref l0] rfl ?_
  obtain ⟨u2, hu2, h⟩ := Option.bind_eq_some_iff.mp h
  obtain ⟨y1, hy1, h⟩ := Option.bind_eq_some_iff.mp h
  refine rn_callV [.int l1] rfl rfl ⟨rfl, rfl⟩ hu2 rfl rfl (e126 (d + 2) hy1) ?_
  refine rn_steps 7 46 [.ref l0, .int l1, x2, .int l3, .int y1.1, .int 0, .long (-1), .retAddr 1, .int 0, x9, x10] [] rfl ?_
  exact e137_46 d 1100 _ _ _ _ _ _ _ _ _ _ _ _ h
noncomputable def f137_5 : Nat → Nat → Int32 → Int32 → Int32 → Int32 → xM → Option (Int32 × xM)
  | 0, _, _, _, _, _, _ => none
  | n + 1, l0, l1, l2, l3, l4, σ =>
    if l2 ≤ l4 then
    f137_28 l0 l1 l3 σ
    else
    if 3 ≤ l4 then
    f137_28 l0 l1 l3 σ
    else
    (f137_5 n) l0 l1 l2 (l3 * 10) (l4 + 1) σ
set_option maxRecDepth 20000 in
set_option maxHeartbeats 1000000 in
theorem e137_5 (d : Nat) : ∀ (n : Nat) (l0 : Nat) (l1 : Int32) (l2 : Int32) (l3 : Int32) (l4 : Int32) (x5 x6 x7 x8 x9 x10 : Value) (σ : xM) (y : Int32 × xM), f137_5 n l0 l1 l2 l3 l4 σ = some y → Rn (d + 5) 137 5 [.ref l0, .int l1, .int l2, .int l3, .int l4, x5, x6, x7, x8, x9, x10] [] σ (some (.int y.1), y.2) := by
  intro n
  induction n with
  | zero => intro l0 l1 l2 l3 l4 x5 x6 x7 x8 x9 x10 σ y h; cases h
  | succ n ih =>
    intro l0 l1 l2 l3 l4 x5 x6 x7 x8 x9 x10 σ y h
    unfold f137_5 at h
    refine rn_steps 2 8 [.ref l0, .int l1, .int l2, .int l3, .int l4, x5, x6, x7, x8, x9, x10] [.int l2, .int l4] rfl ?_
    refine rn_br (c := l2 ≤ l4) rfl rfl decide_eq_true_iff (fun hb => ?_) (fun hb => ?_)
    · rw [if_pos hb] at h
      refine rn_steps 0 28 [.ref l0, .int l1, .int l2, .int l3, .int l4, x5, x6, x7, x8, x9, x10] [] rfl ?_
      exact e137_28 d _ _ _ _ _ _ _ _ _ _ _ _ _ h
    · rw [if_neg hb] at h
      refine rn_steps 2 14 [.ref l0, .int l1, .int l2, .int l3, .int l4, x5, x6, x7, x8, x9, x10] [.int 3, .int l4] rfl ?_
      refine rn_br (c := 3 ≤ l4) rfl rfl decide_eq_true_iff (fun hb => ?_) (fun hb => ?_)
      · rw [if_pos hb] at h
        refine rn_steps 0 28 [.ref l0, .int l1, .int l2, .int l3, .int l4, x5, x6, x7, x8, x9, x10] [] rfl ?_
        exact e137_28 d _ _ _ _ _ _ _ _ _ _ _ _ _ h
      · rw [if_neg hb] at h
        refine rn_steps 6 5 [.ref l0, .int l1, .int l2, .int (l3 * 10), .int (l4 + 1), x5, x6, x7, x8, x9, x10] [] rfl ?_
        exact ih _ _ _ _ _ _ _ _ _ _ _ _ _ h
/-- LastAsked.bestRow(II)I -/
noncomputable def f137 (l0 : Nat) (l1 : Int32) (l2 : Int32) (σ : xM) : Option (Int32 × xM) :=
  f137_5 1100 l0 l1 l2 1 0 σ
set_option maxRecDepth 20000 in
set_option maxHeartbeats 1000000 in
theorem e137 (d : Nat) {l0 : Nat} {l1 : Int32} {l2 : Int32} {σ : xM} {y : Int32 × xM} (h : f137 l0 l1 l2 σ = some y) : Rn (d + 5) 137 0 [.ref l0, .int l1, .int l2, .retAddr 0, .retAddr 0, .retAddr 0, .retAddr 0, .retAddr 0, .retAddr 0, .retAddr 0, .retAddr 0] [] σ (some (.int y.1), y.2) := by
  unfold f137 at h
  refine rn_steps 4 5 [.ref l0, .int l1, .int l2, .int 1, .int 0, .retAddr 0, .retAddr 0, .retAddr 0, .retAddr 0, .retAddr 0, .retAddr 0] [] rfl ?_
  exact e137_5 d 1100 _ _ _ _ _ _ _ _ _ _ _ _ _ h
noncomputable def f85_18 (l0 : Nat) (l1 : Int32) (l2 : Int32) (s0 : Int32) (s1 : Int32) (s2 : Nat) (s3 : Nat) (σ : xM) : Option (Int32 × xM) :=
  (cO σ s2 7).bind fun u6 =>
  (f120 s2 s1 s0 σ).bind fun y1 =>
  (cO y1.2 s3 7).bind fun u5 =>
  (f114 s3 y1.1 y1.2).bind fun y2 =>
  if y2.1 = 0 then
  (cO y2.2 l0 7).bind fun u4 =>
  (f137 l0 l1 l2 y2.2).bind fun y3 =>
  some (y3.1, y3.2)
  else
  some ((-1), y2.2)
set_option maxRecDepth 20000 in
set_option maxHeartbeats 1000000 in
theorem e85_18 (d : Nat) (l0 : Nat) (l1 : Int32) (l2 : Int32) (s0 : Int32) (s1 : Int32) (s2 : Nat) (s3 : Nat) (σ : xM) (y : Int32 × xM) (h : f85_18 l0 l1 l2 s0 s1 s2 s3 σ = some y) : Rn (d + 6) 85 18 [.ref l0, .int l1, .int l2] [.int s0, .int s1, .ref s2, .ref s3] σ (some (.int y.1), y.2) := by
  unfold f85_18 at h
  obtain ⟨u6, hu6, h⟩ := Option.bind_eq_some_iff.mp h
  obtain ⟨y1, hy1, h⟩ := Option.bind_eq_some_iff.mp h
  refine rn_callV [.int s1, .int s0] rfl rfl ⟨rfl, rfl⟩ hu6 rfl rfl (e120 (d + 3) hy1) ?_
  refine rn_steps 0 21 [.ref l0, .int l1, .int l2] [.int y1.1, .ref s3] rfl ?_
  obtain ⟨u5, hu5, h⟩ := Option.bind_eq_some_iff.mp h
  obtain ⟨y2, hy2, h⟩ := Option.bind_eq_some_iff.mp h
  refine rn_callV [.int y1.1] rfl rfl ⟨rfl, rfl⟩ hu5 rfl rfl (e114 (d + 5) hy2) ?_
  refine rn_steps 0 24 [.ref l0, .int l1, .int l2] [.int y2.1] rfl ?_
  refine rn_br (c := y2.1 = 0) rfl rfl decide_eq_true_iff (fun hb => ?_) (fun hb => ?_)
  · rw [if_pos hb] at h
    refine rn_steps 3 32 [.ref l0, .int l1, .int l2] [.int l2, .int l1, .ref l0] rfl ?_
    obtain ⟨u4, hu4, h⟩ := Option.bind_eq_some_iff.mp h
    obtain ⟨y3, hy3, h⟩ := Option.bind_eq_some_iff.mp h
    refine rn_callV [.int l1, .int l2] rfl rfl ⟨rfl, rfl⟩ hu4 rfl rfl (e137 d hy3) ?_
    refine rn_steps 0 35 [.ref l0, .int l1, .int l2] [.int y3.1] rfl ?_
    cases h
    exact rn_ret rfl rfl rfl
  · rw [if_neg hb] at h
    refine rn_steps 1 28 [.ref l0, .int l1, .int l2] [.int (-1)] rfl ?_
    cases h
    exact rn_ret rfl rfl rfl
noncomputable def f85_17 (l0 : Nat) (l1 : Int32) (l2 : Int32) (s0 : Int32) (s1 : Nat) (s2 : Nat) (σ : xM) : Option (Int32 × xM) :=
  f85_18 l0 l1 l2 0 s0 s1 s2 σ
set_option maxRecDepth 20000 in
set_option maxHeartbeats 1000000 in
theorem e85_17 (d : Nat) (l0 : Nat) (l1 : Int32) (l2 : Int32) (s0 : Int32) (s1 : Nat) (s2 : Nat) (σ : xM) (y : Int32 × xM) (h : f85_17 l0 l1 l2 s0 s1 s2 σ = some y) : Rn (d + 6) 85 17 [.ref l0, .int l1, .int l2] [.int s0, .ref s1, .ref s2] σ (some (.int y.1), y.2) := by
  unfold f85_17 at h
  refine rn_steps 1 18 [.ref l0, .int l1, .int l2] [.int 0, .int s0, .ref s1, .ref s2] rfl ?_
  exact e85_18 d _ _ _ _ _ _ _ _ _ h
/-- LastAsked.best(II)I -/
noncomputable def f85 (l0 : Nat) (l1 : Int32) (l2 : Int32) (σ : xM) : Option (Int32 × xM) :=
  if l2 < 1 then
  f85_17 l0 l1 l2 l1 l0 l0 σ
  else
  if 3 < l2 then
  f85_17 l0 l1 l2 l1 l0 l0 σ
  else
  f85_18 l0 l1 l2 1 l1 l0 l0 σ
set_option maxRecDepth 20000 in
set_option maxHeartbeats 1000000 in
theorem e85 (d : Nat) {l0 : Nat} {l1 : Int32} {l2 : Int32} {σ : xM} {y : Int32 × xM} (h : f85 l0 l1 l2 σ = some y) : Rn (d + 6) 85 0 [.ref l0, .int l1, .int l2] [] σ (some (.int y.1), y.2) := by
  unfold f85 at h
  refine rn_steps 5 5 [.ref l0, .int l1, .int l2] [.int 1, .int l2, .int l1, .ref l0, .ref l0] rfl ?_
  refine rn_br (c := l2 < 1) rfl rfl decide_eq_true_iff (fun hb => ?_) (fun hb => ?_)
  · rw [if_pos hb] at h
    refine rn_steps 0 17 [.ref l0, .int l1, .int l2] [.int l1, .ref l0, .ref l0] rfl ?_
    exact e85_17 d _ _ _ _ _ _ _ _ h
  · rw [if_neg hb] at h
    refine rn_steps 2 10 [.ref l0, .int l1, .int l2] [.int 3, .int l2, .int l1, .ref l0, .ref l0] rfl ?_
    refine rn_br (c := 3 < l2) rfl rfl decide_eq_true_iff (fun hb => ?_) (fun hb => ?_)
    · rw [if_pos hb] at h
      refine rn_steps 0 17 [.ref l0, .int l1, .int l2] [.int l1, .ref l0, .ref l0] rfl ?_
      exact e85_17 d _ _ _ _ _ _ _ _ h
    · rw [if_neg hb] at h
      refine rn_steps 2 18 [.ref l0, .int l1, .int l2] [.int 1, .int l1, .ref l0, .ref l0] rfl ?_
      exact e85_18 d _ _ _ _ _ _ _ _ _ h
noncomputable def f86_18 (l0 : Nat) (l1 : Int32) (l2 : Int32) (l3 : Int32) (s0 : Int32) (s1 : Int32) (s2 : Nat) (s3 : Nat) (σ : xM) : Option (Int64 × xM) :=
  (cO σ s2 7).bind fun u9 =>
  (f120 s2 s1 s0 σ).bind fun y1 =>
  (cO y1.2 s3 7).bind fun u8 =>
  (f114 s3 y1.1 y1.2).bind fun y2 =>
  if y2.1 = 0 then
  (cO y2.2 l0 7).bind fun u7 =>
  (f137 l0 l1 l2 y2.2).bind fun y3 =>
  (cO y3.2 l0 7).bind fun u6 =>
  (f139 l0 l1 y3.1 y3.2).bind fun y4 =>
  (f135 y4.1 l3 y4.2).bind fun y5 =>
  some (y5.1, y5.2)
  else
  some ((-1), y2.2)
set_option maxRecDepth 20000 in
set_option maxHeartbeats 1000000 in
theorem e86_18 (d : Nat) (l0 : Nat) (l1 : Int32) (l2 : Int32) (l3 : Int32) (s0 : Int32) (s1 : Int32) (s2 : Nat) (s3 : Nat) (σ : xM) (y : Int64 × xM) (h : f86_18 l0 l1 l2 l3 s0 s1 s2 s3 σ = some y) : Rn (d + 6) 86 18 [.ref l0, .int l1, .int l2, .int l3] [.int s0, .int s1, .ref s2, .ref s3] σ (some (.long y.1), y.2) := by
  unfold f86_18 at h
  obtain ⟨u9, hu9, h⟩ := Option.bind_eq_some_iff.mp h
  obtain ⟨y1, hy1, h⟩ := Option.bind_eq_some_iff.mp h
  refine rn_callV [.int s1, .int s0] rfl rfl ⟨rfl, rfl⟩ hu9 rfl rfl (e120 (d + 3) hy1) ?_
  refine rn_steps 0 21 [.ref l0, .int l1, .int l2, .int l3] [.int y1.1, .ref s3] rfl ?_
  obtain ⟨u8, hu8, h⟩ := Option.bind_eq_some_iff.mp h
  obtain ⟨y2, hy2, h⟩ := Option.bind_eq_some_iff.mp h
  refine rn_callV [.int y1.1] rfl rfl ⟨rfl, rfl⟩ hu8 rfl rfl (e114 (d + 5) hy2) ?_
  refine rn_steps 0 24 [.ref l0, .int l1, .int l2, .int l3] [.int y2.1] rfl ?_
  refine rn_br (c := y2.1 = 0) rfl rfl decide_eq_true_iff (fun hb => ?_) (fun hb => ?_)
  · rw [if_pos hb] at h
    refine rn_steps 5 36 [.ref l0, .int l1, .int l2, .int l3] [.int l2, .int l1, .ref l0, .int l1, .ref l0] rfl ?_
    obtain ⟨u7, hu7, h⟩ := Option.bind_eq_some_iff.mp h
    obtain ⟨y3, hy3, h⟩ := Option.bind_eq_some_iff.mp h
    refine rn_callV [.int l1, .int l2] rfl rfl ⟨rfl, rfl⟩ hu7 rfl rfl (e137 d hy3) ?_
    refine rn_steps 0 39 [.ref l0, .int l1, .int l2, .int l3] [.int y3.1, .int l1, .ref l0] rfl ?_
    obtain ⟨u6, hu6, h⟩ := Option.bind_eq_some_iff.mp h
    obtain ⟨y4, hy4, h⟩ := Option.bind_eq_some_iff.mp h
    refine rn_callV [.int l1, .int y3.1] rfl rfl ⟨rfl, rfl⟩ hu6 rfl rfl (e139 (d + 1) hy4) ?_
    refine rn_steps 1 43 [.ref l0, .int l1, .int l2, .int l3] [.int l3, .long y4.1] rfl ?_
    obtain ⟨y5, hy5, h⟩ := Option.bind_eq_some_iff.mp h
    refine rn_callS [.long y4.1, .int l3] rfl rfl rfl ⟨rfl, rfl, rfl⟩ rfl rfl (e135 (d + 4) hy5) ?_
    refine rn_steps 0 46 [.ref l0, .int l1, .int l2, .int l3] [.long y5.1] rfl ?_
    cases h
    exact rn_ret rfl rfl rfl
  · rw [if_neg hb] at h
    refine rn_steps 1 30 [.ref l0, .int l1, .int l2, .int l3] [.long (-1)] rfl ?_
    cases h
    exact rn_ret rfl rfl rfl
noncomputable def f86_17 (l0 : Nat) (l1 : Int32) (l2 : Int32) (l3 : Int32) (s0 : Int32) (s1 : Nat) (s2 : Nat) (σ : xM) : Option (Int64 × xM) :=
  f86_18 l0 l1 l2 l3 0 s0 s1 s2 σ
set_option maxRecDepth 20000 in
set_option maxHeartbeats 1000000 in
theorem e86_17 (d : Nat) (l0 : Nat) (l1 : Int32) (l2 : Int32) (l3 : Int32) (s0 : Int32) (s1 : Nat) (s2 : Nat) (σ : xM) (y : Int64 × xM) (h : f86_17 l0 l1 l2 l3 s0 s1 s2 σ = some y) : Rn (d + 6) 86 17 [.ref l0, .int l1, .int l2, .int l3] [.int s0, .ref s1, .ref s2] σ (some (.long y.1), y.2) := by
  unfold f86_17 at h
  refine rn_steps 1 18 [.ref l0, .int l1, .int l2, .int l3] [.int 0, .int s0, .ref s1, .ref s2] rfl ?_
  exact e86_18 d _ _ _ _ _ _ _ _ _ _ h
/-- LastAsked.bestMean(IIZ)J -/
noncomputable def f86 (l0 : Nat) (l1 : Int32) (l2 : Int32) (l3 : Int32) (σ : xM) : Option (Int64 × xM) :=
  if l2 < 1 then
  f86_17 l0 l1 l2 l3 l1 l0 l0 σ
  else
  if 3 < l2 then
  f86_17 l0 l1 l2 l3 l1 l0 l0 σ
  else
  f86_18 l0 l1 l2 l3 1 l1 l0 l0 σ
set_option maxRecDepth 20000 in
set_option maxHeartbeats 1000000 in
theorem e86 (d : Nat) {l0 : Nat} {l1 : Int32} {l2 : Int32} {l3 : Int32} {σ : xM} {y : Int64 × xM} (h : f86 l0 l1 l2 l3 σ = some y) : Rn (d + 6) 86 0 [.ref l0, .int l1, .int l2, .int l3] [] σ (some (.long y.1), y.2) := by
  unfold f86 at h
  refine rn_steps 5 5 [.ref l0, .int l1, .int l2, .int l3] [.int 1, .int l2, .int l1, .ref l0, .ref l0] rfl ?_
  refine rn_br (c := l2 < 1) rfl rfl decide_eq_true_iff (fun hb => ?_) (fun hb => ?_)
  · rw [if_pos hb] at h
    refine rn_steps 0 17 [.ref l0, .int l1, .int l2, .int l3] [.int l1, .ref l0, .ref l0] rfl ?_
    exact e86_17 d _ _ _ _ _ _ _ _ _ h
  · rw [if_neg hb] at h
    refine rn_steps 2 10 [.ref l0, .int l1, .int l2, .int l3] [.int 3, .int l2, .int l1, .ref l0, .ref l0] rfl ?_
    refine rn_br (c := 3 < l2) rfl rfl decide_eq_true_iff (fun hb => ?_) (fun hb => ?_)
    · rw [if_pos hb] at h
      refine rn_steps 0 17 [.ref l0, .int l1, .int l2, .int l3] [.int l1, .ref l0, .ref l0] rfl ?_
      exact e86_17 d _ _ _ _ _ _ _ _ _ h
    · rw [if_neg hb] at h
      refine rn_steps 2 18 [.ref l0, .int l1, .int l2, .int l3] [.int 1, .int l1, .ref l0, .ref l0] rfl ?_
      exact e86_18 d _ _ _ _ _ _ _ _ _ _ h
noncomputable def f141_50 (l0 : Nat) (l1 : Int32) (σ : xM) : Option (Int64 × xM) :=
  (gR σ l0 7 3).bind fun r1 =>
  (cO σ l0 7).bind fun u3 =>
  (f133 l0 l1 r1 σ).bind fun y2 =>
  some (y2.1, y2.2)
set_option maxRecDepth 20000 in
set_option maxHeartbeats 1000000 in
theorem e141_50 (d : Nat) (l0 : Nat) (l1 : Int32) (x2 x3 : Value) (σ : xM) (y : Int64 × xM) (h : f141_50 l0 l1 σ = some y) : Rn (d + 4) 141 50 [.ref l0, .int l1, x2, x3] [] σ (some (.long y.1), y.2) := by
  unfold f141_50 at h
  refine rn_steps 3 53 [.ref l0, .int l1, x2, x3] [.ref l0, .int l1, .ref l0] rfl ?_
  obtain ⟨r1, hr1, h⟩ := Option.bind_eq_some_iff.mp h
  refine rn_gR (c := 7) (f := 3) rfl rfl ⟨⟨rfl, rfl⟩, rfl⟩ hr1 ?_
  refine rn_steps 0 56 [.ref l0, .int l1, x2, x3] [.ref r1, .int l1, .ref l0] rfl ?_
  obtain ⟨u3, hu3, h⟩ := Option.bind_eq_some_iff.mp h
  obtain ⟨y2, hy2, h⟩ := Option.bind_eq_some_iff.mp h
  refine rn_callV [.int l1, .ref r1] rfl rfl ⟨rfl, rfl⟩ hu3 rfl rfl (e133 d hy2) ?_
  refine rn_steps 0 59 [.ref l0, .int l1, x2, x3] [.long y2.1] rfl ?_
  cases h
  exact rn_ret rfl rfl rfl
noncomputable def f141_44 (K13 : Nat → Int32 → Int32 → Int32 → xM → Option (Int64 × xM)) (l0 : Nat) (l1 : Int32) (l2 : Int32) (l3 : Int32) (σ : xM) : Option (Int64 × xM) :=
  K13 l0 l1 l2 (l3 + 1) σ
set_option maxRecDepth 20000 in
set_option maxHeartbeats 1000000 in
theorem e141_44 (d : Nat) (K13 : Nat → Int32 → Int32 → Int32 → xM → Option (Int64 × xM)) (hK13 : ∀ (l0 : Nat) (l1 : Int32) (l2 : Int32) (l3 : Int32) (σ : xM) (y : Int64 × xM), K13 l0 l1 l2 l3 σ = some y → Rn (d + 4) 141 13 [.ref l0, .int l1, .int l2, .int l3] [] σ (some (.long y.1), y.2)) (l0 : Nat) (l1 : Int32) (l2 : Int32) (l3 : Int32) (σ : xM) (y : Int64 × xM) (h : f141_44 K13 l0 l1 l2 l3 σ = some y) : Rn (d + 4) 141 44 [.ref l0, .int l1, .int l2, .int l3] [] σ (some (.long y.1), y.2) := by
  unfold f141_44 at h
  refine rn_steps 2 13 [.ref l0, .int l1, .int l2, .int (l3 + 1)] [] rfl ?_
  exact hK13 _ _ _ _ _ _ h
noncomputable def f141_13 : Nat → Nat → Int32 → Int32 → Int32 → xM → Option (Int64 × xM)
  | 0, _, _, _, _, _ => none
  | n + 1, l0, l1, l2, l3, σ =>
    if 6 ≤ l3 then
    f141_50 l0 l1 σ
    else
    (f124 l2 l3 σ).bind fun y1 =>
    if y1.1 = 0 then
    f141_44 (f141_13 n) l0 l1 l2 l3 y1.2
    else
    (gR y1.2 l0 7 3).bind fun r2 =>
    (gR y1.2 l0 7 1).bind fun r3 =>
    (gI y1.2 r3 0 1).bind fun v4 =>
    (cO y1.2 r2 4).bind fun u6 =>
    (f49 r2 l1 l3 v4 y1.2).bind fun y5 =>
    f141_44 (f141_13 n) l0 l1 l2 l3 y5.2
set_option maxRecDepth 20000 in
set_option maxHeartbeats 1000000 in
theorem e141_13 (d : Nat) : ∀ (n : Nat) (l0 : Nat) (l1 : Int32) (l2 : Int32) (l3 : Int32) (σ : xM) (y : Int64 × xM), f141_13 n l0 l1 l2 l3 σ = some y → Rn (d + 4) 141 13 [.ref l0, .int l1, .int l2, .int l3] [] σ (some (.long y.1), y.2) := by
  intro n
  induction n with
  | zero => intro l0 l1 l2 l3 σ y h; cases h
  | succ n ih =>
    intro l0 l1 l2 l3 σ y h
    unfold f141_13 at h
    refine rn_steps 2 16 [.ref l0, .int l1, .int l2, .int l3] [.int 6, .int l3] rfl ?_
    refine rn_br (c := 6 ≤ l3) rfl rfl decide_eq_true_iff (fun hb => ?_) (fun hb => ?_)
    · rw [if_pos hb] at h
      refine rn_steps 0 50 [.ref l0, .int l1, .int l2, .int l3] [] rfl ?_
      exact e141_50 d _ _ _ _ _ _ h
    · rw [if_neg hb] at h
      refine rn_steps 2 21 [.ref l0, .int l1, .int l2, .int l3] [.int l3, .int l2] rfl ?_
      obtain ⟨y1, hy1, h⟩ := Option.bind_eq_some_iff.mp h
      refine rn_callS [.int l2, .int l3] rfl rfl rfl ⟨rfl, rfl, rfl⟩ rfl rfl (e124 (d + 3) hy1) ?_
      refine rn_steps 0 24 [.ref l0, .int l1, .int l2, .int l3] [.int y1.1] rfl ?_
      refine rn_br (c := y1.1 = 0) rfl rfl decide_eq_true_iff (fun hb => ?_) (fun hb => ?_)
      · rw [if_pos hb] at h
        refine rn_steps 0 44 [.ref l0, .int l1, .int l2, .int l3] [] rfl ?_
        exact e141_44 d _ ih _ _ _ _ _ _ h
      · rw [if_neg hb] at h
        refine rn_steps 1 28 [.ref l0, .int l1, .int l2, .int l3] [.ref l0] rfl ?_
        obtain ⟨r2, hr2, h⟩ := Option.bind_eq_some_iff.mp h
        refine rn_gR (c := 7) (f := 3) rfl rfl ⟨⟨rfl, rfl⟩, rfl⟩ hr2 ?_
        refine rn_steps 3 34 [.ref l0, .int l1, .int l2, .int l3] [.ref l0, .int l3, .int l1, .ref r2] rfl ?_
        obtain ⟨r3, hr3, h⟩ := Option.bind_eq_some_iff.mp h
        refine rn_gR (c := 7) (f := 1) rfl rfl ⟨⟨rfl, rfl⟩, rfl⟩ hr3 ?_
        refine rn_steps 0 37 [.ref l0, .int l1, .int l2, .int l3] [.ref r3, .int l3, .int l1, .ref r2] rfl ?_
        obtain ⟨v4, hv4, h⟩ := Option.bind_eq_some_iff.mp h
        refine rn_gI (c := 0) (f := 1) rfl rfl ⟨⟨rfl, rfl⟩, Or.inl rfl⟩ hv4 ?_
        refine rn_steps 0 40 [.ref l0, .int l1, .int l2, .int l3] [.int v4, .int l3, .int l1, .ref r2] rfl ?_
        obtain ⟨u6, hu6, h⟩ := Option.bind_eq_some_iff.mp h
        obtain ⟨y5, hy5, h⟩ := Option.bind_eq_some_iff.mp h
        refine rn_callV [.int l1, .int l3, .int v4] rfl rfl ⟨rfl, rfl⟩ hu6 rfl rfl (e49 (d + 2) hy5) ?_
        refine rn_steps 1 44 [.ref l0, .int l1, .int l2, .int l3] [] rfl ?_
        exact e141_44 d _ ih _ _ _ _ _ _ h
/-- LastAsked.meanByTour(II)J -/
noncomputable def f141 (l0 : Nat) (l1 : Int32) (l2 : Int32) (σ : xM) : Option (Int64 × xM) :=
  (gR σ l0 7 3).bind fun r1 =>
  (gR σ l0 7 2).bind fun r2 =>
  (cO σ r1 4).bind fun u4 =>
  (f47 r1 r2 σ).bind fun y3 =>
  f141_13 1100 l0 l1 l2 0 y3
set_option maxRecDepth 20000 in
set_option maxHeartbeats 1000000 in
theorem e141 (d : Nat) {l0 : Nat} {l1 : Int32} {l2 : Int32} {σ : xM} {y : Int64 × xM} (h : f141 l0 l1 l2 σ = some y) : Rn (d + 4) 141 0 [.ref l0, .int l1, .int l2, .retAddr 0] [] σ (some (.long y.1), y.2) := by
  unfold f141 at h
  refine rn_steps 1 1 [.ref l0, .int l1, .int l2, .retAddr 0] [.ref l0] rfl ?_
  obtain ⟨r1, hr1, h⟩ := Option.bind_eq_some_iff.mp h
  refine rn_gR (c := 7) (f := 3) rfl rfl ⟨⟨rfl, rfl⟩, rfl⟩ hr1 ?_
  refine rn_steps 1 5 [.ref l0, .int l1, .int l2, .retAddr 0] [.ref l0, .ref r1] rfl ?_
  obtain ⟨r2, hr2, h⟩ := Option.bind_eq_some_iff.mp h
  refine rn_gR (c := 7) (f := 2) rfl rfl ⟨⟨rfl, rfl⟩, rfl⟩ hr2 ?_
  refine rn_steps 0 8 [.ref l0, .int l1, .int l2, .retAddr 0] [.ref r2, .ref r1] rfl ?_
  obtain ⟨u4, hu4, h⟩ := Option.bind_eq_some_iff.mp h
  obtain ⟨y3, hy3, h⟩ := Option.bind_eq_some_iff.mp h
  refine rn_callV [.ref r2] rfl rfl ⟨rfl, rfl⟩ hu4 rfl rfl (e47 (d + 2) hy3) ?_
  refine rn_steps 2 13 [.ref l0, .int l1, .int l2, .int 0] [] rfl ?_
  exact e141_13 d 1100 _ _ _ _ _ _ h
noncomputable def f140_110 (l4 : Int32) (σ : xM) : Option (Int32 × xM) :=
  some (l4, σ)
set_option maxRecDepth 20000 in
set_option maxHeartbeats 1000000 in
theorem e140_110 (d : Nat) (l4 : Int32) (x0 x1 x2 x3 x5 x6 x7 x8 x9 x10 : Value) (σ : xM) (y : Int32 × xM) (h : f140_110 l4 σ = some y) : Rn (d + 5) 140 110 [x0, x1, x2, x3, .int l4, x5, x6, x7, x8, x9, x10] [] σ (some (.int y.1), y.2) := by
  unfold f140_110 at h
  refine rn_steps 1 112 [x0, x1, x2, x3, .int l4, x5, x6, x7, x8, x9, x10] [.int l4] rfl ?_
  cases h
  exact rn_ret rfl rfl rfl
noncomputable def f140_104 (K32 : Nat → Int32 → Int32 → Int32 → Int32 → Int64 → Int32 → xM → Option (Int32 × xM)) (l0 : Nat) (l1 : Int32) (l2 : Int32) (l3 : Int32) (l4 : Int32) (l5 : Int64) (l7 : Int32) (σ : xM) : Option (Int32 × xM) :=
  K32 l0 l1 l2 l3 l4 l5 (l7 + 1) σ
set_option maxRecDepth 20000 in
set_option maxHeartbeats 1000000 in
theorem e140_104 (d : Nat) (K32 : Nat → Int32 → Int32 → Int32 → Int32 → Int64 → Int32 → xM → Option (Int32 × xM)) (hK32 : ∀ (l0 : Nat) (l1 : Int32) (l2 : Int32) (l3 : Int32) (l4 : Int32) (l5 : Int64) (l7 : Int32) (x8 x9 x10 : Value) (σ : xM) (y : Int32 × xM), K32 l0 l1 l2 l3 l4 l5 l7 σ = some y → Rn (d + 5) 140 32 [.ref l0, .int l1, .int l2, .int l3, .int l4, .long l5, .retAddr 1, .int l7, x8, x9, x10] [] σ (some (.int y.1), y.2)) (l0 : Nat) (l1 : Int32) (l2 : Int32) (l3 : Int32) (l4 : Int32) (l5 : Int64) (l7 : Int32) (x8 x9 x10 : Value) (σ : xM) (y : Int32 × xM) (h : f140_104 K32 l0 l1 l2 l3 l4 l5 l7 σ = some y) : Rn (d + 5) 140 104 [.ref l0, .int l1, .int l2, .int l3, .int l4, .long l5, .retAddr 1, .int l7, x8, x9, x10] [] σ (some (.int y.1), y.2) := by
  unfold f140_104 at h
  refine rn_steps 2 32 [.ref l0, .int l1, .int l2, .int l3, .int l4, .long l5, .retAddr 1, .int (l7 + 1), x8, x9, x10] [] rfl ?_
  exact hK32 _ _ _ _ _ _ _ _ _ _ _ _ h
noncomputable def f140_86 (K32 : Nat → Int32 → Int32 → Int32 → Int32 → Int64 → Int32 → xM → Option (Int32 × xM)) (l0 : Nat) (l1 : Int32) (l2 : Int32) (l3 : Int32) (l4 : Int32) (l5 : Int64) (l7 : Int32) (s0 : Int64) (σ : xM) : Option (Int32 × xM) :=
  if (lg_cmp s0 l5) ≤ 0 then
  f140_104 K32 l0 l1 l2 l3 l4 l5 l7 σ
  else
  f140_104 K32 l0 l1 l2 l3 l7 s0 l7 σ
set_option maxRecDepth 20000 in
set_option maxHeartbeats 1000000 in
theorem e140_86 (d : Nat) (K32 : Nat → Int32 → Int32 → Int32 → Int32 → Int64 → Int32 → xM → Option (Int32 × xM)) (hK32 : ∀ (l0 : Nat) (l1 : Int32) (l2 : Int32) (l3 : Int32) (l4 : Int32) (l5 : Int64) (l7 : Int32) (x8 x9 x10 : Value) (σ : xM) (y : Int32 × xM), K32 l0 l1 l2 l3 l4 l5 l7 σ = some y → Rn (d + 5) 140 32 [.ref l0, .int l1, .int l2, .int l3, .int l4, .long l5, .retAddr 1, .int l7, x8, x9, x10] [] σ (some (.int y.1), y.2)) (l0 : Nat) (l1 : Int32) (l2 : Int32) (l3 : Int32) (l4 : Int32) (l5 : Int64) (l7 : Int32) (s0 : Int64) (x8 x9 x10 : Value) (σ : xM) (y : Int32 × xM) (h : f140_86 K32 l0 l1 l2 l3 l4 l5 l7 s0 σ = some y) : Rn (d + 5) 140 86 [.ref l0, .int l1, .int l2, .int l3, .int l4, .long l5, .retAddr 1, .int l7, x8, x9, x10] [.long s0] σ (some (.int y.1), y.2) := by
  unfold f140_86 at h
  refine rn_steps 4 93 [.ref l0, .int l1, .int l2, .int l3, .int l4, .long l5, .retAddr 1, .int l7, x8, .long s0, .retAddr 1] [.int (lg_cmp s0 l5)] rfl ?_
  refine rn_br (c := (lg_cmp s0 l5) ≤ 0) rfl rfl decide_eq_true_iff (fun hb => ?_) (fun hb => ?_)
  · rw [if_pos hb] at h
    refine rn_steps 0 104 [.ref l0, .int l1, .int l2, .int l3, .int l4, .long l5, .retAddr 1, .int l7, x8, .long s0, .retAddr 1] [] rfl ?_
    exact e140_104 d _ hK32 _ _ _ _ _ _ _ _ _ _ _ _ h
  · rw [if_neg hb] at h
    refine rn_steps 4 104 [.ref l0, .int l1, .int l2, .int l3, .int l7, .long s0, .retAddr 1, .int l7, x8, .long s0, .retAddr 1] [] rfl ?_
    exact e140_104 d _ hK32 _ _ _ _ _ _ _ _ _ _ _ _ h
noncomputable def f140_66 (K32 : Nat → Int32 → Int32 → Int32 → Int32 → Int64 → Int32 → xM → Option (Int32 × xM)) (l0 : Nat) (l1 : Int32) (l2 : Int32) (l3 : Int32) (l4 : Int32) (l5 : Int64) (l7 : Int32) (s0 : Int32) (σ : xM) : Option (Int32 × xM) :=
  if s0 = 0 then
  f140_86 K32 l0 l1 l2 l3 l4 l5 l7 (-1) σ
  else
  (cO σ l0 7).bind fun u2 =>
  (f141 l0 l1 l7 σ).bind fun y1 =>
  f140_86 K32 l0 l1 l2 l3 l4 l5 l7 y1.1 y1.2
set_option maxRecDepth 20000 in
set_option maxHeartbeats 1000000 in
theorem e140_66 (d : Nat) (K32 : Nat → Int32 → Int32 → Int32 → Int32 → Int64 → Int32 → xM → Option (Int32 × xM)) (hK32 : ∀ (l0 : Nat) (l1 : Int32) (l2 : Int32) (l3 : Int32) (l4 : Int32) (l5 : Int64) (l7 : Int32) (x8 x9 x10 : Value) (σ : xM) (y : Int32 × xM), K32 l0 l1 l2 l3 l4 l5 l7 σ = some y → Rn (d + 5) 140 32 [.ref l0, .int l1, .int l2, .int l3, .int l4, .long l5, .retAddr 1, .int l7, x8, x9, x10] [] σ (some (.int y.1), y.2)) (l0 : Nat) (l1 : Int32) (l2 : Int32) (l3 : Int32) (l4 : Int32) (l5 : Int64) (l7 : Int32) (s0 : Int32) (x8 x9 x10 : Value) (σ : xM) (y : Int32 × xM) (h : f140_66 K32 l0 l1 l2 l3 l4 l5 l7 s0 σ = some y) : Rn (d + 5) 140 66 [.ref l0, .int l1, .int l2, .int l3, .int l4, .long l5, .retAddr 1, .int l7, x8, x9, x10] [.int s0] σ (some (.int y.1), y.2) := by
  unfold f140_66 at h
  refine rn_steps 2 70 [.ref l0, .int l1, .int l2, .int l3, .int l4, .long l5, .retAddr 1, .int l7, .int s0, x9, x10] [.int s0] rfl ?_
  refine rn_br (c := s0 = 0) rfl rfl decide_eq_true_iff (fun hb => ?_) (fun hb => ?_)
  · rw [if_pos hb] at h
    refine rn_steps 1 86 [.ref l0, .int l1, .int l2, .int l3, .int l4, .long l5, .retAddr 1, .int l7, .int s0, x9, x10] [.long (-1)] rfl ?_
    exact e140_86 d _ hK32 _ _ _ _ _ _ _ _ _ _ _ _ _ h
  · rw [if_neg hb] at h
    refine rn_steps 3 77 [.ref l0, .int l1, .int l2, .int l3, .int l4, .long l5, .retAddr 1, .int l7, .int s0, x9, x10] [.int l7, .int l1, .ref l0] rfl ?_
    obtain ⟨u2, hu2, h⟩ := Option.bind_eq_some_iff.mp h
    obtain ⟨y1, hy1, h⟩ := Option.bind_eq_some_iff.mp h
    refine rn_callV [.int l1, .int l7] rfl rfl ⟨rfl, rfl⟩ hu2 rfl rfl (e141 d hy1) ?_
    refine rn_steps 1 86 [.ref l0, .int l1, .int l2, .int l3, .int l4, .long l5, .retAddr 1, .int l7, .int s0, x9, x10] [.long y1.1] rfl ?_
    exact e140_86 d _ hK32 _ _ _ _ _ _ _ _ _ _ _ _ _ h
noncomputable def f140_65 (K32 : Nat → Int32 → Int32 → Int32 → Int32 → Int64 → Int32 → xM → Option (Int32 × xM)) (l0 : Nat) (l1 : Int32) (l2 : Int32) (l3 : Int32) (l4 : Int32) (l5 : Int64) (l7 : Int32) (σ : xM) : Option (Int32 × xM) :=
  f140_66 K32 l0 l1 l2 l3 l4 l5 l7 0 σ
set_option maxRecDepth 20000 in
set_option maxHeartbeats 1000000 in
theorem e140_65 (d : Nat) (K32 : Nat → Int32 → Int32 → Int32 → Int32 → Int64 → Int32 → xM → Option (Int32 × xM)) (hK32 : ∀ (l0 : Nat) (l1 : Int32) (l2 : Int32) (l3 : Int32) (l4 : Int32) (l5 : Int64) (l7 : Int32) (x8 x9 x10 : Value) (σ : xM) (y : Int32 × xM), K32 l0 l1 l2 l3 l4 l5 l7 σ = some y → Rn (d + 5) 140 32 [.ref l0, .int l1, .int l2, .int l3, .int l4, .long l5, .retAddr 1, .int l7, x8, x9, x10] [] σ (some (.int y.1), y.2)) (l0 : Nat) (l1 : Int32) (l2 : Int32) (l3 : Int32) (l4 : Int32) (l5 : Int64) (l7 : Int32) (x8 x9 x10 : Value) (σ : xM) (y : Int32 × xM) (h : f140_65 K32 l0 l1 l2 l3 l4 l5 l7 σ = some y) : Rn (d + 5) 140 65 [.ref l0, .int l1, .int l2, .int l3, .int l4, .long l5, .retAddr 1, .int l7, x8, x9, x10] [] σ (some (.int y.1), y.2) := by
  unfold f140_65 at h
  refine rn_steps 1 66 [.ref l0, .int l1, .int l2, .int l3, .int l4, .long l5, .retAddr 1, .int l7, x8, x9, x10] [.int 0] rfl ?_
  exact e140_66 d _ hK32 _ _ _ _ _ _ _ _ _ _ _ _ _ h
noncomputable def f140_32 : Nat → Nat → Int32 → Int32 → Int32 → Int32 → Int64 → Int32 → xM → Option (Int32 × xM)
  | 0, _, _, _, _, _, _, _, _ => none
  | n + 1, l0, l1, l2, l3, l4, l5, l7, σ =>
    if 64 ≤ l7 then
    f140_110 l4 σ
    else
    if (l7 &&& (l3 ^^^ (-1))) = 0 then
    (gR σ l0 7 6).bind fun r1 =>
    (cO σ r1 5).bind fun u3 =>
    (f55 r1 l7 σ).bind fun y2 =>
    if l2 < y2.1 then
    f140_65 (f140_32 n) l0 l1 l2 l3 l4 l5 l7 y2.2
    else
    f140_66 (f140_32 n) l0 l1 l2 l3 l4 l5 l7 1 y2.2
    else
    f140_65 (f140_32 n) l0 l1 l2 l3 l4 l5 l7 σ
set_option maxRecDepth 20000 in
set_option maxHeartbeats 1000000 in
theorem e140_32 (d : Nat) : ∀ (n : Nat) (l0 : Nat) (l1 : Int32) (l2 : Int32) (l3 : Int32) (l4 : Int32) (l5 : Int64) (l7 : Int32) (x8 x9 x10 : Value) (σ : xM) (y : Int32 × xM), f140_32 n l0 l1 l2 l3 l4 l5 l7 σ = some y → Rn (d + 5) 140 32 [.ref l0, .int l1, .int l2, .int l3, .int l4, .long l5, .retAddr 1, .int l7, x8, x9, x10] [] σ (some (.int y.1), y.2) := by
  intro n
  induction n with
  | zero => intro l0 l1 l2 l3 l4 l5 l7 x8 x9 x10 σ y h; cases h
  | succ n ih =>
    intro l0 l1 l2 l3 l4 l5 l7 x8 x9 x10 σ y h
    unfold f140_32 at h
    refine rn_steps 2 36 [.ref l0, .int l1, .int l2, .int l3, .int l4, .long l5, .retAddr 1, .int l7, x8, x9, x10] [.int 64, .int l7] rfl ?_
    refine rn_br (c := 64 ≤ l7) rfl rfl decide_eq_true_iff (fun hb => ?_) (fun hb => ?_)
    · rw [if_pos hb] at h
      refine rn_steps 0 110 [.ref l0, .int l1, .int l2, .int l3, .int l4, .long l5, .retAddr 1, .int l7, x8, x9, x10] [] rfl ?_
      exact e140_110 d _ _ _ _ _ _ _ _ _ _ _ _ _ h
    · rw [if_neg hb] at h
      refine rn_steps 5 45 [.ref l0, .int l1, .int l2, .int l3, .int l4, .long l5, .retAddr 1, .int l7, x8, x9, x10] [.int (l7 &&& (l3 ^^^ (-1)))] rfl ?_
      refine rn_br (c := ¬ (l7 &&& (l3 ^^^ (-1))) = 0) rfl rfl decide_eq_true_iff (fun hb => ?_) (fun hb => ?_)
      · rw [if_neg hb] at h
        refine rn_steps 0 65 [.ref l0, .int l1, .int l2, .int l3, .int l4, .long l5, .retAddr 1, .int l7, x8, x9, x10] [] rfl ?_
        exact e140_65 d _ ih _ _ _ _ _ _ _ _ _ _ _ _ h
      · rw [if_pos (Decidable.not_not.mp hb)] at h
        refine rn_steps 1 49 [.ref l0, .int l1, .int l2, .int l3, .int l4, .long l5, .retAddr 1, .int l7, x8, x9, x10] [.ref l0] rfl ?_
        obtain ⟨r1, hr1, h⟩ := Option.bind_eq_some_iff.mp h
        refine rn_gR (c := 7) (f := 6) rfl rfl ⟨⟨rfl, rfl⟩, rfl⟩ hr1 ?_
        refine rn_steps 1 54 [.ref l0, .int l1, .int l2, .int l3, .int l4, .long l5, .retAddr 1, .int l7, x8, x9, x10] [.int l7, .ref r1] rfl ?_
        obtain ⟨u3, hu3, h⟩ := Option.bind_eq_some_iff.mp h
        obtain ⟨y2, hy2, h⟩ := Option.bind_eq_some_iff.mp h
        refine rn_callV [.int l7] rfl rfl ⟨rfl, rfl⟩ hu3 rfl rfl (e55 (d + 3) hy2) ?_
        refine rn_steps 1 58 [.ref l0, .int l1, .int l2, .int l3, .int l4, .long l5, .retAddr 1, .int l7, x8, x9, x10] [.int l2, .int y2.1] rfl ?_
        refine rn_br (c := l2 < y2.1) rfl rfl decide_eq_true_iff (fun hb => ?_) (fun hb => ?_)
        · rw [if_pos hb] at h
          refine rn_steps 0 65 [.ref l0, .int l1, .int l2, .int l3, .int l4, .long l5, .retAddr 1, .int l7, x8, x9, x10] [] rfl ?_
          exact e140_65 d _ ih _ _ _ _ _ _ _ _ _ _ _ _ h
        · rw [if_neg hb] at h
          refine rn_steps 2 66 [.ref l0, .int l1, .int l2, .int l3, .int l4, .long l5, .retAddr 1, .int l7, x8, x9, x10] [.int 1] rfl ?_
          exact e140_66 d _ ih _ _ _ _ _ _ _ _ _ _ _ _ _ h
/-- LastAsked.bestTour(II)I -/
noncomputable def f140 (l0 : Nat) (l1 : Int32) (l2 : Int32) (σ : xM) : Option (Int32 × xM) :=
  (gR σ l0 7 6).bind fun r1 =>
  (gR σ l0 7 1).bind fun r2 =>
  (gR σ r2 0 13).bind fun r3 =>
  (cO σ r1 5).bind fun u7 =>
  (f53 r1 l1 r3 σ).bind fun y4 =>
  (cO y4 l0 7).bind fun u6 =>
  (f126 l0 l1 y4).bind fun y5 =>
  f140_32 1100 l0 l1 l2 y5.1 0 (-1) 0 y5.2
set_option maxRecDepth 20000 in
set_option maxHeartbeats 1000000 in
theorem e140 (d : Nat) {l0 : Nat} {l1 : Int32} {l2 : Int32} {σ : xM} {y : Int32 × xM} (h : f140 l0 l1 l2 σ = some y) : Rn (d + 5) 140 0 [.ref l0, .int l1, .int l2, .retAddr 0, .retAddr 0, .retAddr 0, .retAddr 0, .retAddr 0, .retAddr 0, .retAddr 0, .retAddr 0] [] σ (some (.int y.1), y.2) := by
  unfold f140 at h
  refine rn_steps 1 1 [.ref l0, .int l1, .int l2, .retAddr 0, .retAddr 0, .retAddr 0, .retAddr 0, .retAddr 0, .retAddr 0, .retAddr 0, .retAddr 0] [.ref l0] rfl ?_
  obtain ⟨r1, hr1, h⟩ := Option.bind_eq_some_iff.mp h
  refine rn_gR (c := 7) (f := 6) rfl rfl ⟨⟨rfl, rfl⟩, rfl⟩ hr1 ?_
  refine rn_steps 2 6 [.ref l0, .int l1, .int l2, .retAddr 0, .retAddr 0, .retAddr 0, .retAddr 0, .retAddr 0, .retAddr 0, .retAddr 0, .retAddr 0] [.ref l0, .int l1, .ref r1] rfl ?_
  obtain ⟨r2, hr2, h⟩ := Option.bind_eq_some_iff.mp h
  refine rn_gR (c := 7) (f := 1) rfl rfl ⟨⟨rfl, rfl⟩, rfl⟩ hr2 ?_
  refine rn_steps 0 9 [.ref l0, .int l1, .int l2, .retAddr 0, .retAddr 0, .retAddr 0, .retAddr 0, .retAddr 0, .retAddr 0, .retAddr 0, .retAddr 0] [.ref r2, .int l1, .ref r1] rfl ?_
  obtain ⟨r3, hr3, h⟩ := Option.bind_eq_some_iff.mp h
  refine rn_gR (c := 0) (f := 13) rfl rfl ⟨⟨rfl, rfl⟩, rfl⟩ hr3 ?_
  refine rn_steps 0 12 [.ref l0, .int l1, .int l2, .retAddr 0, .retAddr 0, .retAddr 0, .retAddr 0, .retAddr 0, .retAddr 0, .retAddr 0, .retAddr 0] [.ref r3, .int l1, .ref r1] rfl ?_
  obtain ⟨u7, hu7, h⟩ := Option.bind_eq_some_iff.mp h
  obtain ⟨y4, hy4, h⟩ := Option.bind_eq_some_iff.mp h
  refine rn_callV [.int l1, .ref r3] rfl rfl ⟨rfl, rfl⟩ hu7 rfl rfl (e53 (d + 2) hy4) ?_
  refine rn_steps 2 17 [.ref l0, .int l1, .int l2, .retAddr 0, .retAddr 0, .retAddr 0, .retAddr 0, .retAddr 0, .retAddr 0, .retAddr 0, .retAddr 0] [.int l1, .ref l0] rfl ?_
  obtain ⟨u6, hu6, h⟩ := Option.bind_eq_some_iff.mp h
  obtain ⟨y5, hy5, h⟩ := Option.bind_eq_some_iff.mp h
  refine rn_callV [.int l1] rfl rfl ⟨rfl, rfl⟩ hu6 rfl rfl (e126 (d + 2) hy5) ?_
  refine rn_steps 7 32 [.ref l0, .int l1, .int l2, .int y5.1, .int 0, .long (-1), .retAddr 1, .int 0, .retAddr 0, .retAddr 0, .retAddr 0] [] rfl ?_
  exact e140_32 d 1100 _ _ _ _ _ _ _ _ _ _ _ _ h
noncomputable def f87_18 (l0 : Nat) (l1 : Int32) (l2 : Int32) (s0 : Int32) (s1 : Int32) (s2 : Nat) (s3 : Nat) (σ : xM) : Option (Int32 × xM) :=
  (cO σ s2 7).bind fun u6 =>
  (f120 s2 s1 s0 σ).bind fun y1 =>
  (cO y1.2 s3 7).bind fun u5 =>
  (f114 s3 y1.1 y1.2).bind fun y2 =>
  if y2.1 = 0 then
  (cO y2.2 l0 7).bind fun u4 =>
  (f140 l0 l1 l2 y2.2).bind fun y3 =>
  some (y3.1, y3.2)
  else
  some ((-1), y2.2)
set_option maxRecDepth 20000 in
set_option maxHeartbeats 1000000 in
theorem e87_18 (d : Nat) (l0 : Nat) (l1 : Int32) (l2 : Int32) (s0 : Int32) (s1 : Int32) (s2 : Nat) (s3 : Nat) (σ : xM) (y : Int32 × xM) (h : f87_18 l0 l1 l2 s0 s1 s2 s3 σ = some y) : Rn (d + 6) 87 18 [.ref l0, .int l1, .int l2] [.int s0, .int s1, .ref s2, .ref s3] σ (some (.int y.1), y.2) := by
  unfold f87_18 at h
  obtain ⟨u6, hu6, h⟩ := Option.bind_eq_some_iff.mp h
  obtain ⟨y1, hy1, h⟩ := Option.bind_eq_some_iff.mp h
  refine rn_callV [.int s1, .int s0] rfl rfl ⟨rfl, rfl⟩ hu6 rfl rfl (e120 (d + 3) hy1) ?_
  refine rn_steps 0 21 [.ref l0, .int l1, .int l2] [.int y1.1, .ref s3] rfl ?_
  obtain ⟨u5, hu5, h⟩ := Option.bind_eq_some_iff.mp h
  obtain ⟨y2, hy2, h⟩ := Option.bind_eq_some_iff.mp h
  refine rn_callV [.int y1.1] rfl rfl ⟨rfl, rfl⟩ hu5 rfl rfl (e114 (d + 5) hy2) ?_
  refine rn_steps 0 24 [.ref l0, .int l1, .int l2] [.int y2.1] rfl ?_
  refine rn_br (c := y2.1 = 0) rfl rfl decide_eq_true_iff (fun hb => ?_) (fun hb => ?_)
  · rw [if_pos hb] at h
    refine rn_steps 3 32 [.ref l0, .int l1, .int l2] [.int l2, .int l1, .ref l0] rfl ?_
    obtain ⟨u4, hu4, h⟩ := Option.bind_eq_some_iff.mp h
    obtain ⟨y3, hy3, h⟩ := Option.bind_eq_some_iff.mp h
    refine rn_callV [.int l1, .int l2] rfl rfl ⟨rfl, rfl⟩ hu4 rfl rfl (e140 d hy3) ?_
    refine rn_steps 0 35 [.ref l0, .int l1, .int l2] [.int y3.1] rfl ?_
    cases h
    exact rn_ret rfl rfl rfl
  · rw [if_neg hb] at h
    refine rn_steps 1 28 [.ref l0, .int l1, .int l2] [.int (-1)] rfl ?_
    cases h
    exact rn_ret rfl rfl rfl
noncomputable def f87_17 (l0 : Nat) (l1 : Int32) (l2 : Int32) (s0 : Int32) (s1 : Nat) (s2 : Nat) (σ : xM) : Option (Int32 × xM) :=
  f87_18 l0 l1 l2 0 s0 s1 s2 σ
set_option maxRecDepth 20000 in
set_option maxHeartbeats 1000000 in
theorem e87_17 (d : Nat) (l0 : Nat) (l1 : Int32) (l2 : Int32) (s0 : Int32) (s1 : Nat) (s2 : Nat) (σ : xM) (y : Int32 × xM) (h : f87_17 l0 l1 l2 s0 s1 s2 σ = some y) : Rn (d + 6) 87 17 [.ref l0, .int l1, .int l2] [.int s0, .ref s1, .ref s2] σ (some (.int y.1), y.2) := by
  unfold f87_17 at h
  refine rn_steps 1 18 [.ref l0, .int l1, .int l2] [.int 0, .int s0, .ref s1, .ref s2] rfl ?_
  exact e87_18 d _ _ _ _ _ _ _ _ _ h
/-- LastAsked.tour(II)I -/
noncomputable def f87 (l0 : Nat) (l1 : Int32) (l2 : Int32) (σ : xM) : Option (Int32 × xM) :=
  if l2 < 0 then
  f87_17 l0 l1 l2 l1 l0 l0 σ
  else
  if 12 < l2 then
  f87_17 l0 l1 l2 l1 l0 l0 σ
  else
  f87_18 l0 l1 l2 1 l1 l0 l0 σ
set_option maxRecDepth 20000 in
set_option maxHeartbeats 1000000 in
theorem e87 (d : Nat) {l0 : Nat} {l1 : Int32} {l2 : Int32} {σ : xM} {y : Int32 × xM} (h : f87 l0 l1 l2 σ = some y) : Rn (d + 6) 87 0 [.ref l0, .int l1, .int l2] [] σ (some (.int y.1), y.2) := by
  unfold f87 at h
  refine rn_steps 4 4 [.ref l0, .int l1, .int l2] [.int l2, .int l1, .ref l0, .ref l0] rfl ?_
  refine rn_br (c := l2 < 0) rfl rfl decide_eq_true_iff (fun hb => ?_) (fun hb => ?_)
  · rw [if_pos hb] at h
    refine rn_steps 0 17 [.ref l0, .int l1, .int l2] [.int l1, .ref l0, .ref l0] rfl ?_
    exact e87_17 d _ _ _ _ _ _ _ _ h
  · rw [if_neg hb] at h
    refine rn_steps 2 10 [.ref l0, .int l1, .int l2] [.int 12, .int l2, .int l1, .ref l0, .ref l0] rfl ?_
    refine rn_br (c := 12 < l2) rfl rfl decide_eq_true_iff (fun hb => ?_) (fun hb => ?_)
    · rw [if_pos hb] at h
      refine rn_steps 0 17 [.ref l0, .int l1, .int l2] [.int l1, .ref l0, .ref l0] rfl ?_
      exact e87_17 d _ _ _ _ _ _ _ _ h
    · rw [if_neg hb] at h
      refine rn_steps 2 18 [.ref l0, .int l1, .int l2] [.int 1, .int l1, .ref l0, .ref l0] rfl ?_
      exact e87_18 d _ _ _ _ _ _ _ _ _ h
noncomputable def f88_18 (l0 : Nat) (l1 : Int32) (l2 : Int32) (s0 : Int32) (s1 : Int32) (s2 : Nat) (s3 : Nat) (σ : xM) : Option (Int32 × xM) :=
  (cO σ s2 7).bind fun u9 =>
  (f120 s2 s1 s0 σ).bind fun y1 =>
  (cO y1.2 s3 7).bind fun u8 =>
  (f114 s3 y1.1 y1.2).bind fun y2 =>
  if y2.1 = 0 then
  (gR y2.2 l0 7 6).bind fun r3 =>
  (cO y2.2 l0 7).bind fun u7 =>
  (f140 l0 l1 l2 y2.2).bind fun y4 =>
  (cO y4.2 r3 5).bind fun u6 =>
  (f55 r3 y4.1 y4.2).bind fun y5 =>
  some (y5.1, y5.2)
  else
  some ((-1), y2.2)
set_option maxRecDepth 20000 in
set_option maxHeartbeats 1000000 in
theorem e88_18 (d : Nat) (l0 : Nat) (l1 : Int32) (l2 : Int32) (s0 : Int32) (s1 : Int32) (s2 : Nat) (s3 : Nat) (σ : xM) (y : Int32 × xM) (h : f88_18 l0 l1 l2 s0 s1 s2 s3 σ = some y) : Rn (d + 6) 88 18 [.ref l0, .int l1, .int l2] [.int s0, .int s1, .ref s2, .ref s3] σ (some (.int y.1), y.2) := by
  unfold f88_18 at h
  obtain ⟨u9, hu9, h⟩ := Option.bind_eq_some_iff.mp h
  obtain ⟨y1, hy1, h⟩ := Option.bind_eq_some_iff.mp h
  refine rn_callV [.int s1, .int s0] rfl rfl ⟨rfl, rfl⟩ hu9 rfl rfl (e120 (d + 3) hy1) ?_
  refine rn_steps 0 21 [.ref l0, .int l1, .int l2] [.int y1.1, .ref s3] rfl ?_
  obtain ⟨u8, hu8, h⟩ := Option.bind_eq_some_iff.mp h
  obtain ⟨y2, hy2, h⟩ := Option.bind_eq_some_iff.mp h
  refine rn_callV [.int y1.1] rfl rfl ⟨rfl, rfl⟩ hu8 rfl rfl (e114 (d + 5) hy2) ?_
  refine rn_steps 0 24 [.ref l0, .int l1, .int l2] [.int y2.1] rfl ?_
  refine rn_br (c := y2.1 = 0) rfl rfl decide_eq_true_iff (fun hb => ?_) (fun hb => ?_)
  · rw [if_pos hb] at h
    refine rn_steps 1 30 [.ref l0, .int l1, .int l2] [.ref l0] rfl ?_
    obtain ⟨r3, hr3, h⟩ := Option.bind_eq_some_iff.mp h
    refine rn_gR (c := 7) (f := 6) rfl rfl ⟨⟨rfl, rfl⟩, rfl⟩ hr3 ?_
    refine rn_steps 3 36 [.ref l0, .int l1, .int l2] [.int l2, .int l1, .ref l0, .ref r3] rfl ?_
    obtain ⟨u7, hu7, h⟩ := Option.bind_eq_some_iff.mp h
    obtain ⟨y4, hy4, h⟩ := Option.bind_eq_some_iff.mp h
    refine rn_callV [.int l1, .int l2] rfl rfl ⟨rfl, rfl⟩ hu7 rfl rfl (e140 d hy4) ?_
    refine rn_steps 0 39 [.ref l0, .int l1, .int l2] [.int y4.1, .ref r3] rfl ?_
    obtain ⟨u6, hu6, h⟩ := Option.bind_eq_some_iff.mp h
    obtain ⟨y5, hy5, h⟩ := Option.bind_eq_some_iff.mp h
    refine rn_callV [.int y4.1] rfl rfl ⟨rfl, rfl⟩ hu6 rfl rfl (e55 (d + 4) hy5) ?_
    refine rn_steps 0 42 [.ref l0, .int l1, .int l2] [.int y5.1] rfl ?_
    cases h
    exact rn_ret rfl rfl rfl
  · rw [if_neg hb] at h
    refine rn_steps 1 28 [.ref l0, .int l1, .int l2] [.int (-1)] rfl ?_
    cases h
    exact rn_ret rfl rfl rfl
noncomputable def f88_17 (l0 : Nat) (l1 : Int32) (l2 : Int32) (s0 : Int32) (s1 : Nat) (s2 : Nat) (σ : xM) : Option (Int32 × xM) :=
  f88_18 l0 l1 l2 0 s0 s1 s2 σ
set_option maxRecDepth 20000 in
set_option maxHeartbeats 1000000 in
theorem e88_17 (d : Nat) (l0 : Nat) (l1 : Int32) (l2 : Int32) (s0 : Int32) (s1 : Nat) (s2 : Nat) (σ : xM) (y : Int32 × xM) (h : f88_17 l0 l1 l2 s0 s1 s2 σ = some y) : Rn (d + 6) 88 17 [.ref l0, .int l1, .int l2] [.int s0, .ref s1, .ref s2] σ (some (.int y.1), y.2) := by
  unfold f88_17 at h
  refine rn_steps 1 18 [.ref l0, .int l1, .int l2] [.int 0, .int s0, .ref s1, .ref s2] rfl ?_
  exact e88_18 d _ _ _ _ _ _ _ _ _ h
/-- LastAsked.tourHours(II)I -/
noncomputable def f88 (l0 : Nat) (l1 : Int32) (l2 : Int32) (σ : xM) : Option (Int32 × xM) :=
  if l2 < 0 then
  f88_17 l0 l1 l2 l1 l0 l0 σ
  else
  if 12 < l2 then
  f88_17 l0 l1 l2 l1 l0 l0 σ
  else
  f88_18 l0 l1 l2 1 l1 l0 l0 σ
set_option maxRecDepth 20000 in
set_option maxHeartbeats 1000000 in
theorem e88 (d : Nat) {l0 : Nat} {l1 : Int32} {l2 : Int32} {σ : xM} {y : Int32 × xM} (h : f88 l0 l1 l2 σ = some y) : Rn (d + 6) 88 0 [.ref l0, .int l1, .int l2] [] σ (some (.int y.1), y.2) := by
  unfold f88 at h
  refine rn_steps 4 4 [.ref l0, .int l1, .int l2] [.int l2, .int l1, .ref l0, .ref l0] rfl ?_
  refine rn_br (c := l2 < 0) rfl rfl decide_eq_true_iff (fun hb => ?_) (fun hb => ?_)
  · rw [if_pos hb] at h
    refine rn_steps 0 17 [.ref l0, .int l1, .int l2] [.int l1, .ref l0, .ref l0] rfl ?_
    exact e88_17 d _ _ _ _ _ _ _ _ h
  · rw [if_neg hb] at h
    refine rn_steps 2 10 [.ref l0, .int l1, .int l2] [.int 12, .int l2, .int l1, .ref l0, .ref l0] rfl ?_
    refine rn_br (c := 12 < l2) rfl rfl decide_eq_true_iff (fun hb => ?_) (fun hb => ?_)
    · rw [if_pos hb] at h
      refine rn_steps 0 17 [.ref l0, .int l1, .int l2] [.int l1, .ref l0, .ref l0] rfl ?_
      exact e88_17 d _ _ _ _ _ _ _ _ h
    · rw [if_neg hb] at h
      refine rn_steps 2 18 [.ref l0, .int l1, .int l2] [.int 1, .int l1, .ref l0, .ref l0] rfl ?_
      exact e88_18 d _ _ _ _ _ _ _ _ _ h
noncomputable def f89_57 (s0 : Int32) (σ : xM) : Option (Int32 × xM) :=
  some (s0, σ)
set_option maxRecDepth 20000 in
set_option maxHeartbeats 1000000 in
theorem e89_57 (d : Nat) (s0 : Int32) (x0 x1 x2 x3 : Value) (σ : xM) (y : Int32 × xM) (h : f89_57 s0 σ = some y) : Rn (d + 1) 89 57 [x0, x1, x2, x3] [.int s0] σ (some (.int y.1), y.2) := by
  unfold f89_57 at h
  cases h
  exact rn_ret rfl rfl rfl
noncomputable def f89_22 (l0 : Nat) (l1 : Int32) (l2 : Int32) (s0 : Int32) (s1 : Nat) (σ : xM) : Option (Int32 × xM) :=
  (cO σ s1 7).bind fun u6 =>
  (f114 s1 s0 σ).bind fun y1 =>
  if y1.1 = 0 then
  (gR y1.2 l0 7 1).bind fun r2 =>
  (gR y1.2 r2 0 13).bind fun r3 =>
  (f125 l1 l2 y1.2).bind fun y4 =>
  (aI y4.2 r3 y4.1).bind fun v5 =>
  if v5 < 1000 then
  f89_57 v5 y4.2
  else
  f89_57 (-2) y4.2
  else
  some ((-1), y1.2)
set_option maxRecDepth 20000 in
set_option maxHeartbeats 1000000 in
theorem e89_22 (d : Nat) (l0 : Nat) (l1 : Int32) (l2 : Int32) (s0 : Int32) (s1 : Nat) (x3 : Value) (σ : xM) (y : Int32 × xM) (h : f89_22 l0 l1 l2 s0 s1 σ = some y) : Rn (d + 1) 89 22 [.ref l0, .int l1, .int l2, x3] [.int s0, .ref s1] σ (some (.int y.1), y.2) := by
  unfold f89_22 at h
  obtain ⟨u6, hu6, h⟩ := Option.bind_eq_some_iff.mp h
  obtain ⟨y1, hy1, h⟩ := Option.bind_eq_some_iff.mp h
  refine rn_callV [.int s0] rfl rfl ⟨rfl, rfl⟩ hu6 rfl rfl (e114 d hy1) ?_
  refine rn_steps 0 25 [.ref l0, .int l1, .int l2, x3] [.int y1.1] rfl ?_
  refine rn_br (c := y1.1 = 0) rfl rfl decide_eq_true_iff (fun hb => ?_) (fun hb => ?_)
  · rw [if_pos hb] at h
    refine rn_steps 1 31 [.ref l0, .int l1, .int l2, x3] [.ref l0] rfl ?_
    obtain ⟨r2, hr2, h⟩ := Option.bind_eq_some_iff.mp h
    refine rn_gR (c := 7) (f := 1) rfl rfl ⟨⟨rfl, rfl⟩, rfl⟩ hr2 ?_
    refine rn_steps 0 34 [.ref l0, .int l1, .int l2, x3] [.ref r2] rfl ?_
    obtain ⟨r3, hr3, h⟩ := Option.bind_eq_some_iff.mp h
    refine rn_gR (c := 0) (f := 13) rfl rfl ⟨⟨rfl, rfl⟩, rfl⟩ hr3 ?_
    refine rn_steps 2 39 [.ref l0, .int l1, .int l2, x3] [.int l2, .int l1, .ref r3] rfl ?_
    obtain ⟨y4, hy4, h⟩ := Option.bind_eq_some_iff.mp h
    refine rn_callS [.int l1, .int l2] rfl rfl rfl ⟨rfl, rfl, rfl⟩ rfl rfl (e125 d hy4) ?_
    refine rn_steps 0 42 [.ref l0, .int l1, .int l2, x3] [.int y4.1, .ref r3] rfl ?_
    obtain ⟨v5, hv5, h⟩ := Option.bind_eq_some_iff.mp h
    refine rn_aI rfl hv5 ?_
    refine rn_steps 3 48 [.ref l0, .int l1, .int l2, .int v5] [.int 1000, .int v5] rfl ?_
    refine rn_br (c := v5 < 1000) rfl rfl decide_eq_true_iff (fun hb => ?_) (fun hb => ?_)
    · rw [if_pos hb] at h
      refine rn_steps 1 57 [.ref l0, .int l1, .int l2, .int v5] [.int v5] rfl ?_
      exact e89_57 d _ _ _ _ _ _ _ h
    · rw [if_neg hb] at h
      refine rn_steps 2 57 [.ref l0, .int l1, .int l2, .int v5] [.int (-2)] rfl ?_
      exact e89_57 d _ _ _ _ _ _ _ h
  · rw [if_neg hb] at h
    refine rn_steps 1 29 [.ref l0, .int l1, .int l2, x3] [.int (-1)] rfl ?_
    cases h
    exact rn_ret rfl rfl rfl
noncomputable def f89_21 (l0 : Nat) (l1 : Int32) (l2 : Int32) (s0 : Nat) (σ : xM) : Option (Int32 × xM) :=
  f89_22 l0 l1 l2 1 s0 σ
set_option maxRecDepth 20000 in
set_option maxHeartbeats 1000000 in
theorem e89_21 (d : Nat) (l0 : Nat) (l1 : Int32) (l2 : Int32) (s0 : Nat) (x3 : Value) (σ : xM) (y : Int32 × xM) (h : f89_21 l0 l1 l2 s0 σ = some y) : Rn (d + 1) 89 21 [.ref l0, .int l1, .int l2, x3] [.ref s0] σ (some (.int y.1), y.2) := by
  unfold f89_21 at h
  refine rn_steps 1 22 [.ref l0, .int l1, .int l2, x3] [.int 1, .ref s0] rfl ?_
  exact e89_22 d _ _ _ _ _ _ _ _ h
/-- LastAsked.apart(II)I -/
noncomputable def f89 (l0 : Nat) (l1 : Int32) (l2 : Int32) (σ : xM) : Option (Int32 × xM) :=
  (cO σ l0 7).bind fun u4 =>
  (f116 l0 l1 σ).bind fun y1 =>
  if y1.1 = 0 then
  f89_21 l0 l1 l2 l0 y1.2
  else
  (cO y1.2 l0 7).bind fun u3 =>
  (f116 l0 l2 y1.2).bind fun y2 =>
  if y2.1 = 0 then
  f89_21 l0 l1 l2 l0 y2.2
  else
  f89_22 l0 l1 l2 0 l0 y2.2
set_option maxRecDepth 20000 in
set_option maxHeartbeats 1000000 in
theorem e89 (d : Nat) {l0 : Nat} {l1 : Int32} {l2 : Int32} {σ : xM} {y : Int32 × xM} (h : f89 l0 l1 l2 σ = some y) : Rn (d + 1) 89 0 [.ref l0, .int l1, .int l2, .retAddr 0] [] σ (some (.int y.1), y.2) := by
  unfold f89 at h
  refine rn_steps 3 3 [.ref l0, .int l1, .int l2, .retAddr 0] [.int l1, .ref l0, .ref l0] rfl ?_
  obtain ⟨u4, hu4, h⟩ := Option.bind_eq_some_iff.mp h
  obtain ⟨y1, hy1, h⟩ := Option.bind_eq_some_iff.mp h
  refine rn_callV [.int l1] rfl rfl ⟨rfl, rfl⟩ hu4 rfl rfl (e116 d hy1) ?_
  refine rn_steps 0 6 [.ref l0, .int l1, .int l2, .retAddr 0] [.int y1.1, .ref l0] rfl ?_
  refine rn_br (c := y1.1 = 0) rfl rfl decide_eq_true_iff (fun hb => ?_) (fun hb => ?_)
  · rw [if_pos hb] at h
    refine rn_steps 0 21 [.ref l0, .int l1, .int l2, .retAddr 0] [.ref l0] rfl ?_
    exact e89_21 d _ _ _ _ _ _ _ h
  · rw [if_neg hb] at h
    refine rn_steps 2 11 [.ref l0, .int l1, .int l2, .retAddr 0] [.int l2, .ref l0, .ref l0] rfl ?_
    obtain ⟨u3, hu3, h⟩ := Option.bind_eq_some_iff.mp h
    obtain ⟨y2, hy2, h⟩ := Option.bind_eq_some_iff.mp h
    refine rn_callV [.int l2] rfl rfl ⟨rfl, rfl⟩ hu3 rfl rfl (e116 d hy2) ?_
    refine rn_steps 0 14 [.ref l0, .int l1, .int l2, .retAddr 0] [.int y2.1, .ref l0] rfl ?_
    refine rn_br (c := y2.1 = 0) rfl rfl decide_eq_true_iff (fun hb => ?_) (fun hb => ?_)
    · rw [if_pos hb] at h
      refine rn_steps 0 21 [.ref l0, .int l1, .int l2, .retAddr 0] [.ref l0] rfl ?_
      exact e89_21 d _ _ _ _ _ _ _ h
    · rw [if_neg hb] at h
      refine rn_steps 2 22 [.ref l0, .int l1, .int l2, .retAddr 0] [.int 0, .ref l0] rfl ?_
      exact e89_22 d _ _ _ _ _ _ _ _ h
noncomputable def f90_14 (l0 : Nat) (l1 : Int32) (s0 : Int32) (s1 : Nat) (σ : xM) : Option (Int32 × xM) :=
  (cO σ s1 7).bind fun u8 =>
  (f114 s1 s0 σ).bind fun y1 =>
  if y1.1 = 0 then
  (cO y1.2 l0 7).bind fun u7 =>
  (f126 l0 l1 y1.2).bind fun y2 =>
  (cO y2.2 l0 7).bind fun u6 =>
  (f130 l0 l1 y2.2).bind fun y3 =>
  (cO y3.2 l0 7).bind fun u5 =>
  (f128 l0 (y2.1 &&& (y3.1 ^^^ (-1))) y3.2).bind fun y4 =>
  some (y4.1, y4.2)
  else
  some ((-1), y1.2)
set_option maxRecDepth 20000 in
set_option maxHeartbeats 1000000 in
theorem e90_14 (d : Nat) (l0 : Nat) (l1 : Int32) (s0 : Int32) (s1 : Nat) (σ : xM) (y : Int32 × xM) (h : f90_14 l0 l1 s0 s1 σ = some y) : Rn (d + 5) 90 14 [.ref l0, .int l1] [.int s0, .ref s1] σ (some (.int y.1), y.2) := by
  unfold f90_14 at h
  obtain ⟨u8, hu8, h⟩ := Option.bind_eq_some_iff.mp h
  obtain ⟨y1, hy1, h⟩ := Option.bind_eq_some_iff.mp h
  refine rn_callV [.int s0] rfl rfl ⟨rfl, rfl⟩ hu8 rfl rfl (e114 (d + 4) hy1) ?_
  refine rn_steps 0 17 [.ref l0, .int l1] [.int y1.1] rfl ?_
  refine rn_br (c := y1.1 = 0) rfl rfl decide_eq_true_iff (fun hb => ?_) (fun hb => ?_)
  · rw [if_pos hb] at h
    refine rn_steps 3 25 [.ref l0, .int l1] [.int l1, .ref l0, .ref l0] rfl ?_
    obtain ⟨u7, hu7, h⟩ := Option.bind_eq_some_iff.mp h
    obtain ⟨y2, hy2, h⟩ := Option.bind_eq_some_iff.mp h
    refine rn_callV [.int l1] rfl rfl ⟨rfl, rfl⟩ hu7 rfl rfl (e126 (d + 2) hy2) ?_
    refine rn_steps 2 30 [.ref l0, .int l1] [.int l1, .ref l0, .int y2.1, .ref l0] rfl ?_
    obtain ⟨u6, hu6, h⟩ := Option.bind_eq_some_iff.mp h
    obtain ⟨y3, hy3, h⟩ := Option.bind_eq_some_iff.mp h
    refine rn_callV [.int l1] rfl rfl ⟨rfl, rfl⟩ hu6 rfl rfl (e130 d hy3) ?_
    refine rn_steps 3 36 [.ref l0, .int l1] [.int (y2.1 &&& (y3.1 ^^^ (-1))), .ref l0] rfl ?_
    obtain ⟨u5, hu5, h⟩ := Option.bind_eq_some_iff.mp h
    obtain ⟨y4, hy4, h⟩ := Option.bind_eq_some_iff.mp h
    refine rn_callV [.int (y2.1 &&& (y3.1 ^^^ (-1)))] rfl rfl ⟨rfl, rfl⟩ hu5 rfl rfl (e128 (d + 3) hy4) ?_
    refine rn_steps 0 39 [.ref l0, .int l1] [.int y4.1] rfl ?_
    cases h
    exact rn_ret rfl rfl rfl
  · rw [if_neg hb] at h
    refine rn_steps 1 21 [.ref l0, .int l1] [.int (-1)] rfl ?_
    cases h
    exact rn_ret rfl rfl rfl
/-- LastAsked.toAsk(I)I -/
noncomputable def f90 (l0 : Nat) (l1 : Int32) (σ : xM) : Option (Int32 × xM) :=
  (cO σ l0 7).bind fun u2 =>
  (f116 l0 l1 σ).bind fun y1 =>
  if y1.1 = 0 then
  f90_14 l0 l1 1 l0 y1.2
  else
  f90_14 l0 l1 0 l0 y1.2
set_option maxRecDepth 20000 in
set_option maxHeartbeats 1000000 in
theorem e90 (d : Nat) {l0 : Nat} {l1 : Int32} {σ : xM} {y : Int32 × xM} (h : f90 l0 l1 σ = some y) : Rn (d + 5) 90 0 [.ref l0, .int l1] [] σ (some (.int y.1), y.2) := by
  unfold f90 at h
  refine rn_steps 3 3 [.ref l0, .int l1] [.int l1, .ref l0, .ref l0] rfl ?_
  obtain ⟨u2, hu2, h⟩ := Option.bind_eq_some_iff.mp h
  obtain ⟨y1, hy1, h⟩ := Option.bind_eq_some_iff.mp h
  refine rn_callV [.int l1] rfl rfl ⟨rfl, rfl⟩ hu2 rfl rfl (e116 (d + 4) hy1) ?_
  refine rn_steps 0 6 [.ref l0, .int l1] [.int y1.1, .ref l0] rfl ?_
  refine rn_br (c := y1.1 = 0) rfl rfl decide_eq_true_iff (fun hb => ?_) (fun hb => ?_)
  · rw [if_pos hb] at h
    refine rn_steps 1 14 [.ref l0, .int l1] [.int 1, .ref l0] rfl ?_
    exact e90_14 d _ _ _ _ _ _ h
  · rw [if_neg hb] at h
    refine rn_steps 2 14 [.ref l0, .int l1] [.int 0, .ref l0] rfl ?_
    exact e90_14 d _ _ _ _ _ _ h
noncomputable def f91_152 (l4 : Int32) (σ : xM) : Option (Int32 × xM) :=
  some (l4, σ)
set_option maxRecDepth 20000 in
set_option maxHeartbeats 1000000 in
theorem e91_152 (d : Nat) (l4 : Int32) (x0 x1 x2 x3 x5 x6 : Value) (σ : xM) (y : Int32 × xM) (h : f91_152 l4 σ = some y) : Rn (d + 2) 91 152 [x0, x1, x2, x3, .int l4, x5, x6] [] σ (some (.int y.1), y.2) := by
  unfold f91_152 at h
  refine rn_steps 1 154 [x0, x1, x2, x3, .int l4, x5, x6] [.int l4] rfl ?_
  cases h
  exact rn_ret rfl rfl rfl
noncomputable def f91_146 (K78 : Nat → Int32 → Int32 → Int32 → Int32 → Int32 → xM → Option (Int32 × xM)) (l0 : Nat) (l1 : Int32) (l2 : Int32) (l3 : Int32) (l4 : Int32) (l5 : Int32) (σ : xM) : Option (Int32 × xM) :=
  K78 l0 l1 l2 l3 l4 (l5 + 1) σ
set_option maxRecDepth 20000 in
set_option maxHeartbeats 1000000 in
theorem e91_146 (d : Nat) (K78 : Nat → Int32 → Int32 → Int32 → Int32 → Int32 → xM → Option (Int32 × xM)) (hK78 : ∀ (l0 : Nat) (l1 : Int32) (l2 : Int32) (l3 : Int32) (l4 : Int32) (l5 : Int32) (x6 : Value) (σ : xM) (y : Int32 × xM), K78 l0 l1 l2 l3 l4 l5 σ = some y → Rn (d + 2) 91 78 [.ref l0, .int l1, .int l2, .int l3, .int l4, .int l5, x6] [] σ (some (.int y.1), y.2)) (l0 : Nat) (l1 : Int32) (l2 : Int32) (l3 : Int32) (l4 : Int32) (l5 : Int32) (x6 : Value) (σ : xM) (y : Int32 × xM) (h : f91_146 K78 l0 l1 l2 l3 l4 l5 σ = some y) : Rn (d + 2) 91 146 [.ref l0, .int l1, .int l2, .int l3, .int l4, .int l5, x6] [] σ (some (.int y.1), y.2) := by
  unfold f91_146 at h
  refine rn_steps 2 78 [.ref l0, .int l1, .int l2, .int l3, .int l4, .int (l5 + 1), x6] [] rfl ?_
  exact hK78 _ _ _ _ _ _ _ _ _ h
noncomputable def f91_137 (K78 : Nat → Int32 → Int32 → Int32 → Int32 → Int32 → xM → Option (Int32 × xM)) (l0 : Nat) (l1 : Int32) (l2 : Int32) (l3 : Int32) (l4 : Int32) (l5 : Int32) (σ : xM) : Option (Int32 × xM) :=
  f91_146 K78 l0 l1 l2 l3 (l4 ||| (1 <<< (l5 &&& 31))) l5 σ
set_option maxRecDepth 20000 in
set_option maxHeartbeats 1000000 in
theorem e91_137 (d : Nat) (K78 : Nat → Int32 → Int32 → Int32 → Int32 → Int32 → xM → Option (Int32 × xM)) (hK78 : ∀ (l0 : Nat) (l1 : Int32) (l2 : Int32) (l3 : Int32) (l4 : Int32) (l5 : Int32) (x6 : Value) (σ : xM) (y : Int32 × xM), K78 l0 l1 l2 l3 l4 l5 σ = some y → Rn (d + 2) 91 78 [.ref l0, .int l1, .int l2, .int l3, .int l4, .int l5, x6] [] σ (some (.int y.1), y.2)) (l0 : Nat) (l1 : Int32) (l2 : Int32) (l3 : Int32) (l4 : Int32) (l5 : Int32) (x6 : Value) (σ : xM) (y : Int32 × xM) (h : f91_137 K78 l0 l1 l2 l3 l4 l5 σ = some y) : Rn (d + 2) 91 137 [.ref l0, .int l1, .int l2, .int l3, .int l4, .int l5, x6] [] σ (some (.int y.1), y.2) := by
  unfold f91_137 at h
  refine rn_steps 6 146 [.ref l0, .int l1, .int l2, .int l3, .int (l4 ||| (1 <<< (l5 &&& 31))), .int l5, x6] [] rfl ?_
  exact e91_146 d _ hK78 _ _ _ _ _ _ _ _ _ h
noncomputable def f91_78 : Nat → Nat → Int32 → Int32 → Int32 → Int32 → Int32 → xM → Option (Int32 × xM)
  | 0, _, _, _, _, _, _, _ => none
  | n + 1, l0, l1, l2, l3, l4, l5, σ =>
    if 6 ≤ l5 then
    f91_152 l4 σ
    else
    (gR σ l0 7 2).bind fun r1 =>
    (gR σ r1 4 6).bind fun r2 =>
    (f125 l5 l2 σ).bind fun y3 =>
    (aI y3.2 r2 y3.1).bind fun v4 =>
    if l5 = l1 then
    f91_146 (f91_78 n) l0 l1 l2 l3 l4 l5 y3.2
    else
    (gR y3.2 l0 7 2).bind fun r5 =>
    (cO y3.2 r5 4).bind fun u7 =>
    (f48 r5 l5 y3.2).bind fun y6 =>
    if y6.1 = 0 then
    f91_146 (f91_78 n) l0 l1 l2 l3 l4 l5 y6.2
    else
    if l3 < v4 then
    f91_137 (f91_78 n) l0 l1 l2 l3 l4 l5 y6.2
    else
    if v4 = l3 then
    if l1 ≤ l5 then
    f91_146 (f91_78 n) l0 l1 l2 l3 l4 l5 y6.2
    else
    f91_137 (f91_78 n) l0 l1 l2 l3 l4 l5 y6.2
    else
    f91_146 (f91_78 n) l0 l1 l2 l3 l4 l5 y6.2
set_option maxRecDepth 20000 in
set_option maxHeartbeats 1000000 in
theorem e91_78 (d : Nat) : ∀ (n : Nat) (l0 : Nat) (l1 : Int32) (l2 : Int32) (l3 : Int32) (l4 : Int32) (l5 : Int32) (x6 : Value) (σ : xM) (y : Int32 × xM), f91_78 n l0 l1 l2 l3 l4 l5 σ = some y → Rn (d + 2) 91 78 [.ref l0, .int l1, .int l2, .int l3, .int l4, .int l5, x6] [] σ (some (.int y.1), y.2) := by
  intro n
  induction n with
  | zero => intro l0 l1 l2 l3 l4 l5 x6 σ y h; cases h
  | succ n ih =>
    intro l0 l1 l2 l3 l4 l5 x6 σ y h
    unfold f91_78 at h
    refine rn_steps 2 82 [.ref l0, .int l1, .int l2, .int l3, .int l4, .int l5, x6] [.int 6, .int l5] rfl ?_
    refine rn_br (c := 6 ≤ l5) rfl rfl decide_eq_true_iff (fun hb => ?_) (fun hb => ?_)
    · rw [if_pos hb] at h
      refine rn_steps 0 152 [.ref l0, .int l1, .int l2, .int l3, .int l4, .int l5, x6] [] rfl ?_
      exact e91_152 d _ _ _ _ _ _ _ _ _ h
    · rw [if_neg hb] at h
      refine rn_steps 1 86 [.ref l0, .int l1, .int l2, .int l3, .int l4, .int l5, x6] [.ref l0] rfl ?_
      obtain ⟨r1, hr1, h⟩ := Option.bind_eq_some_iff.mp h
      refine rn_gR (c := 7) (f := 2) rfl rfl ⟨⟨rfl, rfl⟩, rfl⟩ hr1 ?_
      refine rn_steps 0 89 [.ref l0, .int l1, .int l2, .int l3, .int l4, .int l5, x6] [.ref r1] rfl ?_
      obtain ⟨r2, hr2, h⟩ := Option.bind_eq_some_iff.mp h
      refine rn_gR (c := 4) (f := 6) rfl rfl ⟨⟨rfl, rfl⟩, rfl⟩ hr2 ?_
      refine rn_steps 2 95 [.ref l0, .int l1, .int l2, .int l3, .int l4, .int l5, x6] [.int l2, .int l5, .ref r2] rfl ?_
      obtain ⟨y3, hy3, h⟩ := Option.bind_eq_some_iff.mp h
      refine rn_callS [.int l5, .int l2] rfl rfl rfl ⟨rfl, rfl, rfl⟩ rfl rfl (e125 (d + 1) hy3) ?_
      refine rn_steps 0 98 [.ref l0, .int l1, .int l2, .int l3, .int l4, .int l5, x6] [.int y3.1, .ref r2] rfl ?_
      obtain ⟨v4, hv4, h⟩ := Option.bind_eq_some_iff.mp h
      refine rn_aI rfl hv4 ?_
      refine rn_steps 3 104 [.ref l0, .int l1, .int l2, .int l3, .int l4, .int l5, .int v4] [.int l1, .int l5] rfl ?_
      refine rn_br (c := l5 = l1) rfl rfl decide_eq_true_iff (fun hb => ?_) (fun hb => ?_)
      · rw [if_pos hb] at h
        refine rn_steps 0 146 [.ref l0, .int l1, .int l2, .int l3, .int l4, .int l5, .int v4] [] rfl ?_
        exact e91_146 d _ ih _ _ _ _ _ _ _ _ _ h
      · rw [if_neg hb] at h
        refine rn_steps 1 108 [.ref l0, .int l1, .int l2, .int l3, .int l4, .int l5, .int v4] [.ref l0] rfl ?_
        obtain ⟨r5, hr5, h⟩ := Option.bind_eq_some_iff.mp h
        refine rn_gR (c := 7) (f := 2) rfl rfl ⟨⟨rfl, rfl⟩, rfl⟩ hr5 ?_
        refine rn_steps 1 113 [.ref l0, .int l1, .int l2, .int l3, .int l4, .int l5, .int v4] [.int l5, .ref r5] rfl ?_
        obtain ⟨u7, hu7, h⟩ := Option.bind_eq_some_iff.mp h
        obtain ⟨y6, hy6, h⟩ := Option.bind_eq_some_iff.mp h
        refine rn_callV [.int l5] rfl rfl ⟨rfl, rfl⟩ hu7 rfl rfl (e48 d hy6) ?_
        refine rn_steps 0 116 [.ref l0, .int l1, .int l2, .int l3, .int l4, .int l5, .int v4] [.int y6.1] rfl ?_
        refine rn_br (c := y6.1 = 0) rfl rfl decide_eq_true_iff (fun hb => ?_) (fun hb => ?_)
        · rw [if_pos hb] at h
          refine rn_steps 0 146 [.ref l0, .int l1, .int l2, .int l3, .int l4, .int l5, .int v4] [] rfl ?_
          exact e91_146 d _ ih _ _ _ _ _ _ _ _ _ h
        · rw [if_neg hb] at h
          refine rn_steps 2 122 [.ref l0, .int l1, .int l2, .int l3, .int l4, .int l5, .int v4] [.int l3, .int v4] rfl ?_
          refine rn_br (c := l3 < v4) rfl rfl decide_eq_true_iff (fun hb => ?_) (fun hb => ?_)
          · rw [if_pos hb] at h
            refine rn_steps 0 137 [.ref l0, .int l1, .int l2, .int l3, .int l4, .int l5, .int v4] [] rfl ?_
            exact e91_137 d _ ih _ _ _ _ _ _ _ _ _ h
          · rw [if_neg hb] at h
            refine rn_steps 2 128 [.ref l0, .int l1, .int l2, .int l3, .int l4, .int l5, .int v4] [.int l3, .int v4] rfl ?_
            refine rn_br (c := ¬ v4 = l3) rfl rfl decide_eq_true_iff (fun hb => ?_) (fun hb => ?_)
            · rw [if_neg hb] at h
              refine rn_steps 0 146 [.ref l0, .int l1, .int l2, .int l3, .int l4, .int l5, .int v4] [] rfl ?_
              exact e91_146 d _ ih _ _ _ _ _ _ _ _ _ h
            · rw [if_pos (Decidable.not_not.mp hb)] at h
              refine rn_steps 2 134 [.ref l0, .int l1, .int l2, .int l3, .int l4, .int l5, .int v4] [.int l1, .int l5] rfl ?_
              refine rn_br (c := l1 ≤ l5) rfl rfl decide_eq_true_iff (fun hb => ?_) (fun hb => ?_)
              · rw [if_pos hb] at h
                refine rn_steps 0 146 [.ref l0, .int l1, .int l2, .int l3, .int l4, .int l5, .int v4] [] rfl ?_
                exact e91_146 d _ ih _ _ _ _ _ _ _ _ _ h
              · rw [if_neg hb] at h
                refine rn_steps 0 137 [.ref l0, .int l1, .int l2, .int l3, .int l4, .int l5, .int v4] [] rfl ?_
                exact e91_137 d _ ih _ _ _ _ _ _ _ _ _ h
noncomputable def f91_69 (σ : xM) : Option (Int32 × xM) :=
  some ((-2), σ)
set_option maxRecDepth 20000 in
set_option maxHeartbeats 1000000 in
theorem e91_69 (d : Nat) (x0 x1 x2 x3 x4 x5 x6 : Value) (σ : xM) (y : Int32 × xM) (h : f91_69 σ = some y) : Rn (d + 2) 91 69 [x0, x1, x2, x3, x4, x5, x6] [] σ (some (.int y.1), y.2) := by
  unfold f91_69 at h
  refine rn_steps 1 71 [x0, x1, x2, x3, x4, x5, x6] [.int (-2)] rfl ?_
  cases h
  exact rn_ret rfl rfl rfl
noncomputable def f91_30 (l0 : Nat) (l1 : Int32) (l2 : Int32) (s0 : Int32) (s1 : Nat) (σ : xM) : Option (Int32 × xM) :=
  (cO σ s1 7).bind fun u9 =>
  (f114 s1 s0 σ).bind fun y1 =>
  if y1.1 = 0 then
  (gR y1.2 l0 7 2).bind fun r2 =>
  (gR y1.2 r2 4 6).bind fun r3 =>
  (f125 l1 l2 y1.2).bind fun y4 =>
  (aI y4.2 r3 y4.1).bind fun v5 =>
  (gR y4.2 l0 7 2).bind fun r6 =>
  (cO y4.2 r6 4).bind fun u8 =>
  (f48 r6 l1 y4.2).bind fun y7 =>
  if y7.1 = 0 then
  f91_69 y7.2
  else
  if v5 = (-2) then
  f91_69 y7.2
  else
  f91_78 1100 l0 l1 l2 v5 0 0 y7.2
  else
  some ((-1), y1.2)
set_option maxRecDepth 20000 in
set_option maxHeartbeats 1000000 in
theorem e91_30 (d : Nat) (l0 : Nat) (l1 : Int32) (l2 : Int32) (s0 : Int32) (s1 : Nat) (x3 x4 x5 x6 : Value) (σ : xM) (y : Int32 × xM) (h : f91_30 l0 l1 l2 s0 s1 σ = some y) : Rn (d + 2) 91 30 [.ref l0, .int l1, .int l2, x3, x4, x5, x6] [.int s0, .ref s1] σ (some (.int y.1), y.2) := by
  unfold f91_30 at h
  obtain ⟨u9, hu9, h⟩ := Option.bind_eq_some_iff.mp h
  obtain ⟨y1, hy1, h⟩ := Option.bind_eq_some_iff.mp h
  refine rn_callV [.int s0] rfl rfl ⟨rfl, rfl⟩ hu9 rfl rfl (e114 (d + 1) hy1) ?_
  refine rn_steps 0 33 [.ref l0, .int l1, .int l2, x3, x4, x5, x6] [.int y1.1] rfl ?_
  refine rn_br (c := y1.1 = 0) rfl rfl decide_eq_true_iff (fun hb => ?_) (fun hb => ?_)
  · rw [if_pos hb] at h
    refine rn_steps 1 39 [.ref l0, .int l1, .int l2, x3, x4, x5, x6] [.ref l0] rfl ?_
    obtain ⟨r2, hr2, h⟩ := Option.bind_eq_some_iff.mp h
    refine rn_gR (c := 7) (f := 2) rfl rfl ⟨⟨rfl, rfl⟩, rfl⟩ hr2 ?_
    refine rn_steps 0 42 [.ref l0, .int l1, .int l2, x3, x4, x5, x6] [.ref r2] rfl ?_
    obtain ⟨r3, hr3, h⟩ := Option.bind_eq_some_iff.mp h
    refine rn_gR (c := 4) (f := 6) rfl rfl ⟨⟨rfl, rfl⟩, rfl⟩ hr3 ?_
    refine rn_steps 2 47 [.ref l0, .int l1, .int l2, x3, x4, x5, x6] [.int l2, .int l1, .ref r3] rfl ?_
    obtain ⟨y4, hy4, h⟩ := Option.bind_eq_some_iff.mp h
    refine rn_callS [.int l1, .int l2] rfl rfl rfl ⟨rfl, rfl, rfl⟩ rfl rfl (e125 (d + 1) hy4) ?_
    refine rn_steps 0 50 [.ref l0, .int l1, .int l2, x3, x4, x5, x6] [.int y4.1, .ref r3] rfl ?_
    obtain ⟨v5, hv5, h⟩ := Option.bind_eq_some_iff.mp h
    refine rn_aI rfl hv5 ?_
    refine rn_steps 2 53 [.ref l0, .int l1, .int l2, .int v5, x4, x5, x6] [.ref l0] rfl ?_
    obtain ⟨r6, hr6, h⟩ := Option.bind_eq_some_iff.mp h
    refine rn_gR (c := 7) (f := 2) rfl rfl ⟨⟨rfl, rfl⟩, rfl⟩ hr6 ?_
    refine rn_steps 1 57 [.ref l0, .int l1, .int l2, .int v5, x4, x5, x6] [.int l1, .ref r6] rfl ?_
    obtain ⟨u8, hu8, h⟩ := Option.bind_eq_some_iff.mp h
    obtain ⟨y7, hy7, h⟩ := Option.bind_eq_some_iff.mp h
    refine rn_callV [.int l1] rfl rfl ⟨rfl, rfl⟩ hu8 rfl rfl (e48 d hy7) ?_
    refine rn_steps 0 60 [.ref l0, .int l1, .int l2, .int v5, x4, x5, x6] [.int y7.1] rfl ?_
    refine rn_br (c := y7.1 = 0) rfl rfl decide_eq_true_iff (fun hb => ?_) (fun hb => ?_)
    · rw [if_pos hb] at h
      refine rn_steps 0 69 [.ref l0, .int l1, .int l2, .int v5, x4, x5, x6] [] rfl ?_
      exact e91_69 d _ _ _ _ _ _ _ _ _ h
    · rw [if_neg hb] at h
      refine rn_steps 2 66 [.ref l0, .int l1, .int l2, .int v5, x4, x5, x6] [.int (-2), .int v5] rfl ?_
      refine rn_br (c := ¬ v5 = (-2)) rfl rfl decide_eq_true_iff (fun hb => ?_) (fun hb => ?_)
      · rw [if_neg hb] at h
        refine rn_steps 4 78 [.ref l0, .int l1, .int l2, .int v5, .int 0, .int 0, x6] [] rfl ?_
        exact e91_78 d 1100 _ _ _ _ _ _ _ _ _ h
      · rw [if_pos (Decidable.not_not.mp hb)] at h
        refine rn_steps 0 69 [.ref l0, .int l1, .int l2, .int v5, x4, x5, x6] [] rfl ?_
        exact e91_69 d _ _ _ _ _ _ _ _ _ h
  · rw [if_neg hb] at h
    refine rn_steps 1 37 [.ref l0, .int l1, .int l2, x3, x4, x5, x6] [.int (-1)] rfl ?_
    cases h
    exact rn_ret rfl rfl rfl
/-- LastAsked.rivals(II)I -/
noncomputable def f91 (l0 : Nat) (l1 : Int32) (l2 : Int32) (σ : xM) : Option (Int32 × xM) :=
  (cO σ l0 7).bind fun u5 =>
  (f117 l0 l1 l2 σ).bind fun y1 =>
  if y1.1 = 0 then
  f91_30 l0 l1 l2 1 l0 y1.2
  else
  (gR y1.2 l0 7 2).bind fun r2 =>
  (cO y1.2 r2 4).bind fun u4 =>
  (f48 r2 l2 y1.2).bind fun y3 =>
  if y3.1 = 0 then
  f91_30 l0 l1 l2 5 l0 y3.2
  else
  f91_30 l0 l1 l2 0 l0 y3.2
set_option maxRecDepth 20000 in
set_option maxHeartbeats 1000000 in
theorem e91 (d : Nat) {l0 : Nat} {l1 : Int32} {l2 : Int32} {σ : xM} {y : Int32 × xM} (h : f91 l0 l1 l2 σ = some y) : Rn (d + 2) 91 0 [.ref l0, .int l1, .int l2, .retAddr 0, .retAddr 0, .retAddr 0, .retAddr 0] [] σ (some (.int y.1), y.2) := by
  unfold f91 at h
  refine rn_steps 4 4 [.ref l0, .int l1, .int l2, .retAddr 0, .retAddr 0, .retAddr 0, .retAddr 0] [.int l2, .int l1, .ref l0, .ref l0] rfl ?_
  obtain ⟨u5, hu5, h⟩ := Option.bind_eq_some_iff.mp h
  obtain ⟨y1, hy1, h⟩ := Option.bind_eq_some_iff.mp h
  refine rn_callV [.int l1, .int l2] rfl rfl ⟨rfl, rfl⟩ hu5 rfl rfl (e117 d hy1) ?_
  refine rn_steps 0 7 [.ref l0, .int l1, .int l2, .retAddr 0, .retAddr 0, .retAddr 0, .retAddr 0] [.int y1.1, .ref l0] rfl ?_
  refine rn_br (c := ¬ y1.1 = 0) rfl rfl decide_eq_true_iff (fun hb => ?_) (fun hb => ?_)
  · rw [if_neg hb] at h
    refine rn_steps 1 15 [.ref l0, .int l1, .int l2, .retAddr 0, .retAddr 0, .retAddr 0, .retAddr 0] [.ref l0, .ref l0] rfl ?_
    obtain ⟨r2, hr2, h⟩ := Option.bind_eq_some_iff.mp h
    refine rn_gR (c := 7) (f := 2) rfl rfl ⟨⟨rfl, rfl⟩, rfl⟩ hr2 ?_
    refine rn_steps 1 19 [.ref l0, .int l1, .int l2, .retAddr 0, .retAddr 0, .retAddr 0, .retAddr 0] [.int l2, .ref r2, .ref l0] rfl ?_
    obtain ⟨u4, hu4, h⟩ := Option.bind_eq_some_iff.mp h
    obtain ⟨y3, hy3, h⟩ := Option.bind_eq_some_iff.mp h
    refine rn_callV [.int l2] rfl rfl ⟨rfl, rfl⟩ hu4 rfl rfl (e48 d hy3) ?_
    refine rn_steps 0 22 [.ref l0, .int l1, .int l2, .retAddr 0, .retAddr 0, .retAddr 0, .retAddr 0] [.int y3.1, .ref l0] rfl ?_
    refine rn_br (c := y3.1 = 0) rfl rfl decide_eq_true_iff (fun hb => ?_) (fun hb => ?_)
    · rw [if_pos hb] at h
      refine rn_steps 1 30 [.ref l0, .int l1, .int l2, .retAddr 0, .retAddr 0, .retAddr 0, .retAddr 0] [.int 5, .ref l0] rfl ?_
      exact e91_30 d _ _ _ _ _ _ _ _ _ _ _ h
    · rw [if_neg hb] at h
      refine rn_steps 2 30 [.ref l0, .int l1, .int l2, .retAddr 0, .retAddr 0, .retAddr 0, .retAddr 0] [.int 0, .ref l0] rfl ?_
      exact e91_30 d _ _ _ _ _ _ _ _ _ _ _ h
  · rw [if_pos (Decidable.not_not.mp hb)] at h
    refine rn_steps 2 30 [.ref l0, .int l1, .int l2, .retAddr 0, .retAddr 0, .retAddr 0, .retAddr 0] [.int 1, .ref l0] rfl ?_
    exact e91_30 d _ _ _ _ _ _ _ _ _ _ _ h
noncomputable def f92_13 (l0 : Nat) (s0 : Int32) (s1 : Nat) (σ : xM) : Option (Int32 × xM) :=
  (cO σ s1 7).bind fun u6 =>
  (f114 s1 s0 σ).bind fun y1 =>
  if y1.1 = 0 then
  (gR y1.2 l0 7 7).bind fun r2 =>
  (gR y1.2 l0 7 1).bind fun r3 =>
  (cO y1.2 r2 1).bind fun u5 =>
  (f10 r2 r3 y1.2).bind fun y4 =>
  some (y4.1, y4.2)
  else
  some ((-1), y1.2)
set_option maxRecDepth 20000 in
set_option maxHeartbeats 1000000 in
theorem e92_13 (d : Nat) (l0 : Nat) (s0 : Int32) (s1 : Nat) (σ : xM) (y : Int32 × xM) (h : f92_13 l0 s0 s1 σ = some y) : Rn (d + 4) 92 13 [.ref l0] [.int s0, .ref s1] σ (some (.int y.1), y.2) := by
  unfold f92_13 at h
  obtain ⟨u6, hu6, h⟩ := Option.bind_eq_some_iff.mp h
  obtain ⟨y1, hy1, h⟩ := Option.bind_eq_some_iff.mp h
  refine rn_callV [.int s0] rfl rfl ⟨rfl, rfl⟩ hu6 rfl rfl (e114 (d + 3) hy1) ?_
  refine rn_steps 0 16 [.ref l0] [.int y1.1] rfl ?_
  refine rn_br (c := y1.1 = 0) rfl rfl decide_eq_true_iff (fun hb => ?_) (fun hb => ?_)
  · rw [if_pos hb] at h
    refine rn_steps 1 22 [.ref l0] [.ref l0] rfl ?_
    obtain ⟨r2, hr2, h⟩ := Option.bind_eq_some_iff.mp h
    refine rn_gR (c := 7) (f := 7) rfl rfl ⟨⟨rfl, rfl⟩, rfl⟩ hr2 ?_
    refine rn_steps 1 26 [.ref l0] [.ref l0, .ref r2] rfl ?_
    obtain ⟨r3, hr3, h⟩ := Option.bind_eq_some_iff.mp h
    refine rn_gR (c := 7) (f := 1) rfl rfl ⟨⟨rfl, rfl⟩, rfl⟩ hr3 ?_
    refine rn_steps 0 29 [.ref l0] [.ref r3, .ref r2] rfl ?_
    obtain ⟨u5, hu5, h⟩ := Option.bind_eq_some_iff.mp h
    obtain ⟨y4, hy4, h⟩ := Option.bind_eq_some_iff.mp h
    refine rn_callV [.ref r3] rfl rfl ⟨rfl, rfl⟩ hu5 rfl rfl (e10 d hy4) ?_
    refine rn_steps 0 32 [.ref l0] [.int y4.1] rfl ?_
    cases h
    exact rn_ret rfl rfl rfl
  · rw [if_neg hb] at h
    refine rn_steps 1 20 [.ref l0] [.int (-1)] rfl ?_
    cases h
    exact rn_ret rfl rfl rfl
/-- LastAsked.fits()I -/
noncomputable def f92 (l0 : Nat) (σ : xM) : Option (Int32 × xM) :=
  (cO σ l0 7).bind fun u2 =>
  (f115 l0 σ).bind fun y1 =>
  if y1.1 = 0 then
  f92_13 l0 1 l0 y1.2
  else
  f92_13 l0 0 l0 y1.2
set_option maxRecDepth 20000 in
set_option maxHeartbeats 1000000 in
theorem e92 (d : Nat) {l0 : Nat} {σ : xM} {y : Int32 × xM} (h : f92 l0 σ = some y) : Rn (d + 4) 92 0 [.ref l0] [] σ (some (.int y.1), y.2) := by
  unfold f92 at h
  refine rn_steps 2 2 [.ref l0] [.ref l0, .ref l0] rfl ?_
  obtain ⟨u2, hu2, h⟩ := Option.bind_eq_some_iff.mp h
  obtain ⟨y1, hy1, h⟩ := Option.bind_eq_some_iff.mp h
  refine rn_callV [] rfl rfl ⟨rfl, rfl⟩ hu2 rfl rfl (e115 (d + 3) hy1) ?_
  refine rn_steps 0 5 [.ref l0] [.int y1.1, .ref l0] rfl ?_
  refine rn_br (c := y1.1 = 0) rfl rfl decide_eq_true_iff (fun hb => ?_) (fun hb => ?_)
  · rw [if_pos hb] at h
    refine rn_steps 1 13 [.ref l0] [.int 1, .ref l0] rfl ?_
    exact e92_13 d _ _ _ _ _ h
  · rw [if_neg hb] at h
    refine rn_steps 2 13 [.ref l0] [.int 0, .ref l0] rfl ?_
    exact e92_13 d _ _ _ _ _ h
noncomputable def f93_64 (l0 : Nat) (l2 : Int32) (l3 : Int32) (s0 : Int32) (s1 : Nat) (σ : xM) : Option (Int32 × xM) :=
  (cO σ s1 7).bind fun u5 =>
  (f114 s1 s0 σ).bind fun y1 =>
  if y1.1 = 0 then
  (gR y1.2 l0 7 7).bind fun r2 =>
  (cO y1.2 r2 1).bind fun u4 =>
  (f8 r2 l3 l2 y1.2).bind fun y3 =>
  some (y3.1, y3.2)
  else
  some ((-1), y1.2)
set_option maxRecDepth 20000 in
set_option maxHeartbeats 1000000 in
theorem e93_64 (d : Nat) (l0 : Nat) (l2 : Int32) (l3 : Int32) (s0 : Int32) (s1 : Nat) (x1 : Value) (σ : xM) (y : Int32 × xM) (h : f93_64 l0 l2 l3 s0 s1 σ = some y) : Rn (d + 4) 93 64 [.ref l0, x1, .int l2, .int l3] [.int s0, .ref s1] σ (some (.int y.1), y.2) := by
  unfold f93_64 at h
  obtain ⟨u5, hu5, h⟩ := Option.bind_eq_some_iff.mp h
  obtain ⟨y1, hy1, h⟩ := Option.bind_eq_some_iff.mp h
  refine rn_callV [.int s0] rfl rfl ⟨rfl, rfl⟩ hu5 rfl rfl (e114 (d + 3) hy1) ?_
  refine rn_steps 0 67 [.ref l0, x1, .int l2, .int l3] [.int y1.1] rfl ?_
  refine rn_br (c := y1.1 = 0) rfl rfl decide_eq_true_iff (fun hb => ?_) (fun hb => ?_)
  · rw [if_pos hb] at h
    refine rn_steps 1 73 [.ref l0, x1, .int l2, .int l3] [.ref l0] rfl ?_
    obtain ⟨r2, hr2, h⟩ := Option.bind_eq_some_iff.mp h
    refine rn_gR (c := 7) (f := 7) rfl rfl ⟨⟨rfl, rfl⟩, rfl⟩ hr2 ?_
    refine rn_steps 2 78 [.ref l0, x1, .int l2, .int l3] [.int l2, .int l3, .ref r2] rfl ?_
    obtain ⟨u4, hu4, h⟩ := Option.bind_eq_some_iff.mp h
    obtain ⟨y3, hy3, h⟩ := Option.bind_eq_some_iff.mp h
    refine rn_callV [.int l3, .int l2] rfl rfl ⟨rfl, rfl⟩ hu4 rfl rfl (e8 (d + 3) hy3) ?_
    refine rn_steps 0 81 [.ref l0, x1, .int l2, .int l3] [.int y3.1] rfl ?_
    cases h
    exact rn_ret rfl rfl rfl
  · rw [if_neg hb] at h
    refine rn_steps 1 71 [.ref l0, x1, .int l2, .int l3] [.int (-1)] rfl ?_
    cases h
    exact rn_ret rfl rfl rfl
noncomputable def f93_32 (l0 : Nat) (l1 : Int32) (l2 : Int32) (s0 : Int32) (s1 : Nat) (σ : xM) : Option (Int32 × xM) :=
  (cO σ s1 7).bind fun u6 =>
  (f114 s1 s0 σ).bind fun y1 =>
  if y1.1 = 0 then
  (gR y1.2 l0 7 7).bind fun r2 =>
  (gR y1.2 l0 7 1).bind fun r3 =>
  (cO y1.2 r2 1).bind fun u5 =>
  (f11 r2 r3 l1 y1.2).bind fun y4 =>
  if y4.1 = (-1) then
  f93_64 l0 l2 y4.1 1 l0 y4.2
  else
  f93_64 l0 l2 y4.1 0 l0 y4.2
  else
  some ((-1), y1.2)
set_option maxRecDepth 20000 in
set_option maxHeartbeats 1000000 in
theorem e93_32 (d : Nat) (l0 : Nat) (l1 : Int32) (l2 : Int32) (s0 : Int32) (s1 : Nat) (x3 : Value) (σ : xM) (y : Int32 × xM) (h : f93_32 l0 l1 l2 s0 s1 σ = some y) : Rn (d + 4) 93 32 [.ref l0, .int l1, .int l2, x3] [.int s0, .ref s1] σ (some (.int y.1), y.2) := by
  unfold f93_32 at h
  obtain ⟨u6, hu6, h⟩ := Option.bind_eq_some_iff.mp h
  obtain ⟨y1, hy1, h⟩ := Option.bind_eq_some_iff.mp h
  refine rn_callV [.int s0] rfl rfl ⟨rfl, rfl⟩ hu6 rfl rfl (e114 (d + 3) hy1) ?_
  refine rn_steps 0 35 [.ref l0, .int l1, .int l2, x3] [.int y1.1] rfl ?_
  refine rn_br (c := y1.1 = 0) rfl rfl decide_eq_true_iff (fun hb => ?_) (fun hb => ?_)
  · rw [if_pos hb] at h
    refine rn_steps 1 41 [.ref l0, .int l1, .int l2, x3] [.ref l0] rfl ?_
    obtain ⟨r2, hr2, h⟩ := Option.bind_eq_some_iff.mp h
    refine rn_gR (c := 7) (f := 7) rfl rfl ⟨⟨rfl, rfl⟩, rfl⟩ hr2 ?_
    refine rn_steps 1 45 [.ref l0, .int l1, .int l2, x3] [.ref l0, .ref r2] rfl ?_
    obtain ⟨r3, hr3, h⟩ := Option.bind_eq_some_iff.mp h
    refine rn_gR (c := 7) (f := 1) rfl rfl ⟨⟨rfl, rfl⟩, rfl⟩ hr3 ?_
    refine rn_steps 1 49 [.ref l0, .int l1, .int l2, x3] [.int l1, .ref r3, .ref r2] rfl ?_
    obtain ⟨u5, hu5, h⟩ := Option.bind_eq_some_iff.mp h
    obtain ⟨y4, hy4, h⟩ := Option.bind_eq_some_iff.mp h
    refine rn_callV [.ref r3, .int l1] rfl rfl ⟨rfl, rfl⟩ hu5 rfl rfl (e11 d hy4) ?_
    refine rn_steps 4 56 [.ref l0, .int l1, .int l2, .int y4.1] [.int (-1), .int y4.1, .ref l0] rfl ?_
    refine rn_br (c := ¬ y4.1 = (-1)) rfl rfl decide_eq_true_iff (fun hb => ?_) (fun hb => ?_)
    · rw [if_neg hb] at h
      refine rn_steps 1 64 [.ref l0, .int l1, .int l2, .int y4.1] [.int 0, .ref l0] rfl ?_
      exact e93_64 d _ _ _ _ _ _ _ _ h
    · rw [if_pos (Decidable.not_not.mp hb)] at h
      refine rn_steps 2 64 [.ref l0, .int l1, .int l2, .int y4.1] [.int 1, .ref l0] rfl ?_
      exact e93_64 d _ _ _ _ _ _ _ _ h
  · rw [if_neg hb] at h
    refine rn_steps 1 39 [.ref l0, .int l1, .int l2, x3] [.int (-1)] rfl ?_
    cases h
    exact rn_ret rfl rfl rfl
noncomputable def f93_31 (l0 : Nat) (l1 : Int32) (l2 : Int32) (s0 : Nat) (σ : xM) : Option (Int32 × xM) :=
  f93_32 l0 l1 l2 1 s0 σ
set_option maxRecDepth 20000 in
set_option maxHeartbeats 1000000 in
theorem e93_31 (d : Nat) (l0 : Nat) (l1 : Int32) (l2 : Int32) (s0 : Nat) (x3 : Value) (σ : xM) (y : Int32 × xM) (h : f93_31 l0 l1 l2 s0 σ = some y) : Rn (d + 4) 93 31 [.ref l0, .int l1, .int l2, x3] [.ref s0] σ (some (.int y.1), y.2) := by
  unfold f93_31 at h
  refine rn_steps 1 32 [.ref l0, .int l1, .int l2, x3] [.int 1, .ref s0] rfl ?_
  exact e93_32 d _ _ _ _ _ _ _ _ h
/-- LastAsked.fitAt(II)I -/
noncomputable def f93 (l0 : Nat) (l1 : Int32) (l2 : Int32) (σ : xM) : Option (Int32 × xM) :=
  (cO σ l0 7).bind fun u4 =>
  (f115 l0 σ).bind fun y1 =>
  if y1.1 = 0 then
  f93_31 l0 l1 l2 l0 y1.2
  else
  if l1 < 0 then
  f93_31 l0 l1 l2 l0 y1.2
  else
  if l2 < 0 then
  f93_31 l0 l1 l2 l0 y1.2
  else
  (gR y1.2 l0 7 1).bind fun r2 =>
  (gI y1.2 r2 0 5).bind fun v3 =>
  if v3 ≤ l2 then
  f93_31 l0 l1 l2 l0 y1.2
  else
  f93_32 l0 l1 l2 0 l0 y1.2
set_option maxRecDepth 20000 in
set_option maxHeartbeats 1000000 in
theorem e93 (d : Nat) {l0 : Nat} {l1 : Int32} {l2 : Int32} {σ : xM} {y : Int32 × xM} (h : f93 l0 l1 l2 σ = some y) : Rn (d + 4) 93 0 [.ref l0, .int l1, .int l2, .retAddr 0] [] σ (some (.int y.1), y.2) := by
  unfold f93 at h
  refine rn_steps 2 2 [.ref l0, .int l1, .int l2, .retAddr 0] [.ref l0, .ref l0] rfl ?_
  obtain ⟨u4, hu4, h⟩ := Option.bind_eq_some_iff.mp h
  obtain ⟨y1, hy1, h⟩ := Option.bind_eq_some_iff.mp h
  refine rn_callV [] rfl rfl ⟨rfl, rfl⟩ hu4 rfl rfl (e115 (d + 3) hy1) ?_
  refine rn_steps 0 5 [.ref l0, .int l1, .int l2, .retAddr 0] [.int y1.1, .ref l0] rfl ?_
  refine rn_br (c := y1.1 = 0) rfl rfl decide_eq_true_iff (fun hb => ?_) (fun hb => ?_)
  · rw [if_pos hb] at h
    refine rn_steps 0 31 [.ref l0, .int l1, .int l2, .retAddr 0] [.ref l0] rfl ?_
    exact e93_31 d _ _ _ _ _ _ _ h
  · rw [if_neg hb] at h
    refine rn_steps 1 9 [.ref l0, .int l1, .int l2, .retAddr 0] [.int l1, .ref l0] rfl ?_
    refine rn_br (c := l1 < 0) rfl rfl decide_eq_true_iff (fun hb => ?_) (fun hb => ?_)
    · rw [if_pos hb] at h
      refine rn_steps 0 31 [.ref l0, .int l1, .int l2, .retAddr 0] [.ref l0] rfl ?_
      exact e93_31 d _ _ _ _ _ _ _ h
    · rw [if_neg hb] at h
      refine rn_steps 1 13 [.ref l0, .int l1, .int l2, .retAddr 0] [.int l2, .ref l0] rfl ?_
      refine rn_br (c := l2 < 0) rfl rfl decide_eq_true_iff (fun hb => ?_) (fun hb => ?_)
      · rw [if_pos hb] at h
        refine rn_steps 0 31 [.ref l0, .int l1, .int l2, .retAddr 0] [.ref l0] rfl ?_
        exact e93_31 d _ _ _ _ _ _ _ h
      · rw [if_neg hb] at h
        refine rn_steps 2 18 [.ref l0, .int l1, .int l2, .retAddr 0] [.ref l0, .int l2, .ref l0] rfl ?_
        obtain ⟨r2, hr2, h⟩ := Option.bind_eq_some_iff.mp h
        refine rn_gR (c := 7) (f := 1) rfl rfl ⟨⟨rfl, rfl⟩, rfl⟩ hr2 ?_
        refine rn_steps 0 21 [.ref l0, .int l1, .int l2, .retAddr 0] [.ref r2, .int l2, .ref l0] rfl ?_
        obtain ⟨v3, hv3, h⟩ := Option.bind_eq_some_iff.mp h
        refine rn_gI (c := 0) (f := 5) rfl rfl ⟨⟨rfl, rfl⟩, Or.inl rfl⟩ hv3 ?_
        refine rn_steps 0 24 [.ref l0, .int l1, .int l2, .retAddr 0] [.int v3, .int l2, .ref l0] rfl ?_
        refine rn_br (c := v3 ≤ l2) rfl rfl decide_eq_true_iff (fun hb => ?_) (fun hb => ?_)
        · rw [if_pos hb] at h
          refine rn_steps 0 31 [.ref l0, .int l1, .int l2, .retAddr 0] [.ref l0] rfl ?_
          exact e93_31 d _ _ _ _ _ _ _ h
        · rw [if_neg hb] at h
          refine rn_steps 2 32 [.ref l0, .int l1, .int l2, .retAddr 0] [.int 0, .ref l0] rfl ?_
          exact e93_32 d _ _ _ _ _ _ _ _ h
noncomputable def f94_15 (l0 : Nat) (l1 : Int32) (l2 : Int32) (s0 : Int32) (s1 : Nat) (σ : xM) : Option (Int32 × xM) :=
  (cO σ s1 7).bind fun u6 =>
  (f114 s1 s0 σ).bind fun y1 =>
  if y1.1 = 0 then
  (gR y1.2 l0 7 7).bind fun r2 =>
  (gR y1.2 l0 7 1).bind fun r3 =>
  (cO y1.2 r2 1).bind fun u5 =>
  (f12 r2 r3 l1 l2 y1.2).bind fun y4 =>
  some (y4.1, y4.2)
  else
  some ((-1), y1.2)
set_option maxRecDepth 20000 in
set_option maxHeartbeats 1000000 in
theorem e94_15 (d : Nat) (l0 : Nat) (l1 : Int32) (l2 : Int32) (s0 : Int32) (s1 : Nat) (σ : xM) (y : Int32 × xM) (h : f94_15 l0 l1 l2 s0 s1 σ = some y) : Rn (d + 4) 94 15 [.ref l0, .int l1, .int l2] [.int s0, .ref s1] σ (some (.int y.1), y.2) := by
  unfold f94_15 at h
  obtain ⟨u6, hu6, h⟩ := Option.bind_eq_some_iff.mp h
  obtain ⟨y1, hy1, h⟩ := Option.bind_eq_some_iff.mp h
  refine rn_callV [.int s0] rfl rfl ⟨rfl, rfl⟩ hu6 rfl rfl (e114 (d + 3) hy1) ?_
  refine rn_steps 0 18 [.ref l0, .int l1, .int l2] [.int y1.1] rfl ?_
  refine rn_br (c := y1.1 = 0) rfl rfl decide_eq_true_iff (fun hb => ?_) (fun hb => ?_)
  · rw [if_pos hb] at h
    refine rn_steps 1 24 [.ref l0, .int l1, .int l2] [.ref l0] rfl ?_
    obtain ⟨r2, hr2, h⟩ := Option.bind_eq_some_iff.mp h
    refine rn_gR (c := 7) (f := 7) rfl rfl ⟨⟨rfl, rfl⟩, rfl⟩ hr2 ?_
    refine rn_steps 1 28 [.ref l0, .int l1, .int l2] [.ref l0, .ref r2] rfl ?_
    obtain ⟨r3, hr3, h⟩ := Option.bind_eq_some_iff.mp h
    refine rn_gR (c := 7) (f := 1) rfl rfl ⟨⟨rfl, rfl⟩, rfl⟩ hr3 ?_
    refine rn_steps 2 33 [.ref l0, .int l1, .int l2] [.int l2, .int l1, .ref r3, .ref r2] rfl ?_
    obtain ⟨u5, hu5, h⟩ := Option.bind_eq_some_iff.mp h
    obtain ⟨y4, hy4, h⟩ := Option.bind_eq_some_iff.mp h
    refine rn_callV [.ref r3, .int l1, .int l2] rfl rfl ⟨rfl, rfl⟩ hu5 rfl rfl (e12 d hy4) ?_
    refine rn_steps 0 36 [.ref l0, .int l1, .int l2] [.int y4.1] rfl ?_
    cases h
    exact rn_ret rfl rfl rfl
  · rw [if_neg hb] at h
    refine rn_steps 1 22 [.ref l0, .int l1, .int l2] [.int (-1)] rfl ?_
    cases h
    exact rn_ret rfl rfl rfl
/-- LastAsked.heirBy(II)I -/
noncomputable def f94 (l0 : Nat) (l1 : Int32) (l2 : Int32) (σ : xM) : Option (Int32 × xM) :=
  (cO σ l0 7).bind fun u2 =>
  (f117 l0 l1 l2 σ).bind fun y1 =>
  if y1.1 = 0 then
  f94_15 l0 l1 l2 1 l0 y1.2
  else
  f94_15 l0 l1 l2 0 l0 y1.2
set_option maxRecDepth 20000 in
set_option maxHeartbeats 1000000 in
theorem e94 (d : Nat) {l0 : Nat} {l1 : Int32} {l2 : Int32} {σ : xM} {y : Int32 × xM} (h : f94 l0 l1 l2 σ = some y) : Rn (d + 4) 94 0 [.ref l0, .int l1, .int l2] [] σ (some (.int y.1), y.2) := by
  unfold f94 at h
  refine rn_steps 4 4 [.ref l0, .int l1, .int l2] [.int l2, .int l1, .ref l0, .ref l0] rfl ?_
  obtain ⟨u2, hu2, h⟩ := Option.bind_eq_some_iff.mp h
  obtain ⟨y1, hy1, h⟩ := Option.bind_eq_some_iff.mp h
  refine rn_callV [.int l1, .int l2] rfl rfl ⟨rfl, rfl⟩ hu2 rfl rfl (e117 (d + 2) hy1) ?_
  refine rn_steps 0 7 [.ref l0, .int l1, .int l2] [.int y1.1, .ref l0] rfl ?_
  refine rn_br (c := y1.1 = 0) rfl rfl decide_eq_true_iff (fun hb => ?_) (fun hb => ?_)
  · rw [if_pos hb] at h
    refine rn_steps 1 15 [.ref l0, .int l1, .int l2] [.int 1, .ref l0] rfl ?_
    exact e94_15 d _ _ _ _ _ _ _ h
  · rw [if_neg hb] at h
    refine rn_steps 2 15 [.ref l0, .int l1, .int l2] [.int 0, .ref l0] rfl ?_
    exact e94_15 d _ _ _ _ _ _ _ h
noncomputable def f95_13 (l0 : Nat) (s0 : Int32) (s1 : Nat) (σ : xM) : Option (Int32 × xM) :=
  (cO σ s1 7).bind fun u6 =>
  (f114 s1 s0 σ).bind fun y1 =>
  if y1.1 = 0 then
  (gR y1.2 l0 7 7).bind fun r2 =>
  (gR y1.2 l0 7 1).bind fun r3 =>
  (cO y1.2 r2 1).bind fun u5 =>
  (f13 r2 r3 y1.2).bind fun y4 =>
  some (y4.1, y4.2)
  else
  some ((-1), y1.2)
set_option maxRecDepth 20000 in
set_option maxHeartbeats 1000000 in
theorem e95_13 (d : Nat) (l0 : Nat) (s0 : Int32) (s1 : Nat) (σ : xM) (y : Int32 × xM) (h : f95_13 l0 s0 s1 σ = some y) : Rn (d + 5) 95 13 [.ref l0] [.int s0, .ref s1] σ (some (.int y.1), y.2) := by
  unfold f95_13 at h
  obtain ⟨u6, hu6, h⟩ := Option.bind_eq_some_iff.mp h
  obtain ⟨y1, hy1, h⟩ := Option.bind_eq_some_iff.mp h
  refine rn_callV [.int s0] rfl rfl ⟨rfl, rfl⟩ hu6 rfl rfl (e114 (d + 4) hy1) ?_
  refine rn_steps 0 16 [.ref l0] [.int y1.1] rfl ?_
  refine rn_br (c := y1.1 = 0) rfl rfl decide_eq_true_iff (fun hb => ?_) (fun hb => ?_)
  · rw [if_pos hb] at h
    refine rn_steps 1 22 [.ref l0] [.ref l0] rfl ?_
    obtain ⟨r2, hr2, h⟩ := Option.bind_eq_some_iff.mp h
    refine rn_gR (c := 7) (f := 7) rfl rfl ⟨⟨rfl, rfl⟩, rfl⟩ hr2 ?_
    refine rn_steps 1 26 [.ref l0] [.ref l0, .ref r2] rfl ?_
    obtain ⟨r3, hr3, h⟩ := Option.bind_eq_some_iff.mp h
    refine rn_gR (c := 7) (f := 1) rfl rfl ⟨⟨rfl, rfl⟩, rfl⟩ hr3 ?_
    refine rn_steps 0 29 [.ref l0] [.ref r3, .ref r2] rfl ?_
    obtain ⟨u5, hu5, h⟩ := Option.bind_eq_some_iff.mp h
    obtain ⟨y4, hy4, h⟩ := Option.bind_eq_some_iff.mp h
    refine rn_callV [.ref r3] rfl rfl ⟨rfl, rfl⟩ hu5 rfl rfl (e13 d hy4) ?_
    refine rn_steps 0 32 [.ref l0] [.int y4.1] rfl ?_
    cases h
    exact rn_ret rfl rfl rfl
  · rw [if_neg hb] at h
    refine rn_steps 1 20 [.ref l0] [.int (-1)] rfl ?_
    cases h
    exact rn_ret rfl rfl rfl
/-- LastAsked.look()I -/
noncomputable def f95 (l0 : Nat) (σ : xM) : Option (Int32 × xM) :=
  (cO σ l0 7).bind fun u2 =>
  (f115 l0 σ).bind fun y1 =>
  if y1.1 = 0 then
  f95_13 l0 1 l0 y1.2
  else
  f95_13 l0 0 l0 y1.2
set_option maxRecDepth 20000 in
set_option maxHeartbeats 1000000 in
theorem e95 (d : Nat) {l0 : Nat} {σ : xM} {y : Int32 × xM} (h : f95 l0 σ = some y) : Rn (d + 5) 95 0 [.ref l0] [] σ (some (.int y.1), y.2) := by
  unfold f95 at h
  refine rn_steps 2 2 [.ref l0] [.ref l0, .ref l0] rfl ?_
  obtain ⟨u2, hu2, h⟩ := Option.bind_eq_some_iff.mp h
  obtain ⟨y1, hy1, h⟩ := Option.bind_eq_some_iff.mp h
  refine rn_callV [] rfl rfl ⟨rfl, rfl⟩ hu2 rfl rfl (e115 (d + 4) hy1) ?_
  refine rn_steps 0 5 [.ref l0] [.int y1.1, .ref l0] rfl ?_
  refine rn_br (c := y1.1 = 0) rfl rfl decide_eq_true_iff (fun hb => ?_) (fun hb => ?_)
  · rw [if_pos hb] at h
    refine rn_steps 1 13 [.ref l0] [.int 1, .ref l0] rfl ?_
    exact e95_13 d _ _ _ _ _ h
  · rw [if_neg hb] at h
    refine rn_steps 2 13 [.ref l0] [.int 0, .ref l0] rfl ?_
    exact e95_13 d _ _ _ _ _ h
noncomputable def f96_52 (s0 : Int32) (σ : xM) : Option (Int32 × xM) :=
  some (s0, σ)
set_option maxRecDepth 20000 in
set_option maxHeartbeats 1000000 in
theorem e96_52 (d : Nat) (s0 : Int32) (x0 x1 : Value) (σ : xM) (y : Int32 × xM) (h : f96_52 s0 σ = some y) : Rn (d + 5) 96 52 [x0, x1] [.int s0] σ (some (.int y.1), y.2) := by
  unfold f96_52 at h
  cases h
  exact rn_ret rfl rfl rfl
noncomputable def f96_13 (l0 : Nat) (s0 : Int32) (s1 : Nat) (σ : xM) : Option (Int32 × xM) :=
  (cO σ s1 7).bind fun u9 =>
  (f114 s1 s0 σ).bind fun y1 =>
  if y1.1 = 0 then
  (gR y1.2 l0 7 7).bind fun r2 =>
  (gR y1.2 l0 7 1).bind fun r3 =>
  (cO y1.2 r2 1).bind fun u8 =>
  (f13 r2 r3 y1.2).bind fun y4 =>
  if y4.1 = (-2) then
  f96_52 (-2) y4.2
  else
  (gR y4.2 l0 7 7).bind fun r5 =>
  (cO y4.2 r5 1).bind fun u7 =>
  (f15 r5 y4.1 y4.2).bind fun y6 =>
  f96_52 y6.1 y6.2
  else
  some ((-1), y1.2)
set_option maxRecDepth 20000 in
set_option maxHeartbeats 1000000 in
theorem e96_13 (d : Nat) (l0 : Nat) (s0 : Int32) (s1 : Nat) (x1 : Value) (σ : xM) (y : Int32 × xM) (h : f96_13 l0 s0 s1 σ = some y) : Rn (d + 5) 96 13 [.ref l0, x1] [.int s0, .ref s1] σ (some (.int y.1), y.2) := by
  unfold f96_13 at h
  obtain ⟨u9, hu9, h⟩ := Option.bind_eq_some_iff.mp h
  obtain ⟨y1, hy1, h⟩ := Option.bind_eq_some_iff.mp h
  refine rn_callV [.int s0] rfl rfl ⟨rfl, rfl⟩ hu9 rfl rfl (e114 (d + 4) hy1) ?_
  refine rn_steps 0 16 [.ref l0, x1] [.int y1.1] rfl ?_
  refine rn_br (c := y1.1 = 0) rfl rfl decide_eq_true_iff (fun hb => ?_) (fun hb => ?_)
  · rw [if_pos hb] at h
    refine rn_steps 1 22 [.ref l0, x1] [.ref l0] rfl ?_
    obtain ⟨r2, hr2, h⟩ := Option.bind_eq_some_iff.mp h
    refine rn_gR (c := 7) (f := 7) rfl rfl ⟨⟨rfl, rfl⟩, rfl⟩ hr2 ?_
    refine rn_steps 1 26 [.ref l0, x1] [.ref l0, .ref r2] rfl ?_
    obtain ⟨r3, hr3, h⟩ := Option.bind_eq_some_iff.mp h
    refine rn_gR (c := 7) (f := 1) rfl rfl ⟨⟨rfl, rfl⟩, rfl⟩ hr3 ?_
    refine rn_steps 0 29 [.ref l0, x1] [.ref r3, .ref r2] rfl ?_
    obtain ⟨u8, hu8, h⟩ := Option.bind_eq_some_iff.mp h
    obtain ⟨y4, hy4, h⟩ := Option.bind_eq_some_iff.mp h
    refine rn_callV [.ref r3] rfl rfl ⟨rfl, rfl⟩ hu8 rfl rfl (e13 d hy4) ?_
    refine rn_steps 3 36 [.ref l0, .int y4.1] [.int (-2), .int y4.1] rfl ?_
    refine rn_br (c := ¬ y4.1 = (-2)) rfl rfl decide_eq_true_iff (fun hb => ?_) (fun hb => ?_)
    · rw [if_neg hb] at h
      refine rn_steps 1 45 [.ref l0, .int y4.1] [.ref l0] rfl ?_
      obtain ⟨r5, hr5, h⟩ := Option.bind_eq_some_iff.mp h
      refine rn_gR (c := 7) (f := 7) rfl rfl ⟨⟨rfl, rfl⟩, rfl⟩ hr5 ?_
      refine rn_steps 1 49 [.ref l0, .int y4.1] [.int y4.1, .ref r5] rfl ?_
      obtain ⟨u7, hu7, h⟩ := Option.bind_eq_some_iff.mp h
      obtain ⟨y6, hy6, h⟩ := Option.bind_eq_some_iff.mp h
      refine rn_callV [.int y4.1] rfl rfl ⟨rfl, rfl⟩ hu7 rfl rfl (e15 (d + 3) hy6) ?_
      refine rn_steps 0 52 [.ref l0, .int y4.1] [.int y6.1] rfl ?_
      exact e96_52 d _ _ _ _ _ h
    · rw [if_pos (Decidable.not_not.mp hb)] at h
      refine rn_steps 2 52 [.ref l0, .int y4.1] [.int (-2)] rfl ?_
      exact e96_52 d _ _ _ _ _ h
  · rw [if_neg hb] at h
    refine rn_steps 1 20 [.ref l0, x1] [.int (-1)] rfl ?_
    cases h
    exact rn_ret rfl rfl rfl
/-- LastAsked.lookLeaves()I -/
noncomputable def f96 (l0 : Nat) (σ : xM) : Option (Int32 × xM) :=
  (cO σ l0 7).bind fun u2 =>
  (f115 l0 σ).bind fun y1 =>
  if y1.1 = 0 then
  f96_13 l0 1 l0 y1.2
  else
  f96_13 l0 0 l0 y1.2
set_option maxRecDepth 20000 in
set_option maxHeartbeats 1000000 in
theorem e96 (d : Nat) {l0 : Nat} {σ : xM} {y : Int32 × xM} (h : f96 l0 σ = some y) : Rn (d + 5) 96 0 [.ref l0, .retAddr 0] [] σ (some (.int y.1), y.2) := by
  unfold f96 at h
  refine rn_steps 2 2 [.ref l0, .retAddr 0] [.ref l0, .ref l0] rfl ?_
  obtain ⟨u2, hu2, h⟩ := Option.bind_eq_some_iff.mp h
  obtain ⟨y1, hy1, h⟩ := Option.bind_eq_some_iff.mp h
  refine rn_callV [] rfl rfl ⟨rfl, rfl⟩ hu2 rfl rfl (e115 (d + 4) hy1) ?_
  refine rn_steps 0 5 [.ref l0, .retAddr 0] [.int y1.1, .ref l0] rfl ?_
  refine rn_br (c := y1.1 = 0) rfl rfl decide_eq_true_iff (fun hb => ?_) (fun hb => ?_)
  · rw [if_pos hb] at h
    refine rn_steps 1 13 [.ref l0, .retAddr 0] [.int 1, .ref l0] rfl ?_
    exact e96_13 d _ _ _ _ _ _ h
  · rw [if_neg hb] at h
    refine rn_steps 2 13 [.ref l0, .retAddr 0] [.int 0, .ref l0] rfl ?_
    exact e96_13 d _ _ _ _ _ _ h
noncomputable def f97_93 (σ : xM) : Option (Int32 × xM) :=
  some ((-2), σ)
set_option maxRecDepth 20000 in
set_option maxHeartbeats 1000000 in
theorem e97_93 (d : Nat) (x0 x1 : Value) (σ : xM) (y : Int32 × xM) (h : f97_93 σ = some y) : Rn (d + 3) 97 93 [x0, x1] [] σ (some (.int y.1), y.2) := by
  unfold f97_93 at h
  refine rn_steps 1 95 [x0, x1] [.int (-2)] rfl ?_
  cases h
  exact rn_ret rfl rfl rfl
noncomputable def f97_87 (K44 : Nat → Int32 → xM → Option (Int32 × xM)) (l0 : Nat) (l1 : Int32) (σ : xM) : Option (Int32 × xM) :=
  K44 l0 (l1 + 1) σ
set_option maxRecDepth 20000 in
set_option maxHeartbeats 1000000 in
theorem e97_87 (d : Nat) (K44 : Nat → Int32 → xM → Option (Int32 × xM)) (hK44 : ∀ (l0 : Nat) (l1 : Int32) (σ : xM) (y : Int32 × xM), K44 l0 l1 σ = some y → Rn (d + 3) 97 44 [.ref l0, .int l1] [] σ (some (.int y.1), y.2)) (l0 : Nat) (l1 : Int32) (σ : xM) (y : Int32 × xM) (h : f97_87 K44 l0 l1 σ = some y) : Rn (d + 3) 97 87 [.ref l0, .int l1] [] σ (some (.int y.1), y.2) := by
  unfold f97_87 at h
  refine rn_steps 2 44 [.ref l0, .int (l1 + 1)] [] rfl ?_
  exact hK44 _ _ _ _ h
noncomputable def f97_44 : Nat → Nat → Int32 → xM → Option (Int32 × xM)
  | 0, _, _, _ => none
  | n + 1, l0, l1, σ =>
    if 6 ≤ l1 then
    f97_93 σ
    else
    (gR σ l0 7 1).bind fun r1 =>
    (gR σ r1 0 11).bind fun r2 =>
    (aI σ r2 l1).bind fun v3 =>
    if v3 = (-3) then
    f97_87 (f97_44 n) l0 l1 σ
    else
    (gR σ l0 7 1).bind fun r4 =>
    (gR σ r4 0 11).bind fun r5 =>
    (aI σ r5 l1).bind fun v6 =>
    (gR σ l0 7 5).bind fun r7 =>
    (gR σ r7 6 0).bind fun r8 =>
    (aI σ r8 l1).bind fun v9 =>
    if v6 = v9 then
    f97_87 (f97_44 n) l0 l1 σ
    else
    some (l1, σ)
set_option maxRecDepth 20000 in
set_option maxHeartbeats 1000000 in
theorem e97_44 (d : Nat) : ∀ (n : Nat) (l0 : Nat) (l1 : Int32) (σ : xM) (y : Int32 × xM), f97_44 n l0 l1 σ = some y → Rn (d + 3) 97 44 [.ref l0, .int l1] [] σ (some (.int y.1), y.2) := by
  intro n
  induction n with
  | zero => intro l0 l1 σ y h; cases h
  | succ n ih =>
    intro l0 l1 σ y h
    unfold f97_44 at h
    refine rn_steps 2 47 [.ref l0, .int l1] [.int 6, .int l1] rfl ?_
    refine rn_br (c := 6 ≤ l1) rfl rfl decide_eq_true_iff (fun hb => ?_) (fun hb => ?_)
    · rw [if_pos hb] at h
      refine rn_steps 0 93 [.ref l0, .int l1] [] rfl ?_
      exact e97_93 d _ _ _ _ h
    · rw [if_neg hb] at h
      refine rn_steps 1 51 [.ref l0, .int l1] [.ref l0] rfl ?_
      obtain ⟨r1, hr1, h⟩ := Option.bind_eq_some_iff.mp h
      refine rn_gR (c := 7) (f := 1) rfl rfl ⟨⟨rfl, rfl⟩, rfl⟩ hr1 ?_
      refine rn_steps 0 54 [.ref l0, .int l1] [.ref r1] rfl ?_
      obtain ⟨r2, hr2, h⟩ := Option.bind_eq_some_iff.mp h
      refine rn_gR (c := 0) (f := 11) rfl rfl ⟨⟨rfl, rfl⟩, rfl⟩ hr2 ?_
      refine rn_steps 1 58 [.ref l0, .int l1] [.int l1, .ref r2] rfl ?_
      obtain ⟨v3, hv3, h⟩ := Option.bind_eq_some_iff.mp h
      refine rn_aI rfl hv3 ?_
      refine rn_steps 1 61 [.ref l0, .int l1] [.int (-3), .int v3] rfl ?_
      refine rn_br (c := v3 = (-3)) rfl rfl decide_eq_true_iff (fun hb => ?_) (fun hb => ?_)
      · rw [if_pos hb] at h
        refine rn_steps 0 87 [.ref l0, .int l1] [] rfl ?_
        exact e97_87 d _ ih _ _ _ _ h
      · rw [if_neg hb] at h
        refine rn_steps 1 65 [.ref l0, .int l1] [.ref l0] rfl ?_
        obtain ⟨r4, hr4, h⟩ := Option.bind_eq_some_iff.mp h
        refine rn_gR (c := 7) (f := 1) rfl rfl ⟨⟨rfl, rfl⟩, rfl⟩ hr4 ?_
        refine rn_steps 0 68 [.ref l0, .int l1] [.ref r4] rfl ?_
        obtain ⟨r5, hr5, h⟩ := Option.bind_eq_some_iff.mp h
        refine rn_gR (c := 0) (f := 11) rfl rfl ⟨⟨rfl, rfl⟩, rfl⟩ hr5 ?_
        refine rn_steps 1 72 [.ref l0, .int l1] [.int l1, .ref r5] rfl ?_
        obtain ⟨v6, hv6, h⟩ := Option.bind_eq_some_iff.mp h
        refine rn_aI rfl hv6 ?_
        refine rn_steps 1 74 [.ref l0, .int l1] [.ref l0, .int v6] rfl ?_
        obtain ⟨r7, hr7, h⟩ := Option.bind_eq_some_iff.mp h
        refine rn_gR (c := 7) (f := 5) rfl rfl ⟨⟨rfl, rfl⟩, rfl⟩ hr7 ?_
        refine rn_steps 0 77 [.ref l0, .int l1] [.ref r7, .int v6] rfl ?_
        obtain ⟨r8, hr8, h⟩ := Option.bind_eq_some_iff.mp h
        refine rn_gR (c := 6) (f := 0) rfl rfl ⟨⟨rfl, rfl⟩, rfl⟩ hr8 ?_
        refine rn_steps 1 81 [.ref l0, .int l1] [.int l1, .ref r8, .int v6] rfl ?_
        obtain ⟨v9, hv9, h⟩ := Option.bind_eq_some_iff.mp h
        refine rn_aI rfl hv9 ?_
        refine rn_steps 0 82 [.ref l0, .int l1] [.int v9, .int v6] rfl ?_
        refine rn_br (c := v6 = v9) rfl rfl decide_eq_true_iff (fun hb => ?_) (fun hb => ?_)
        · rw [if_pos hb] at h
          refine rn_steps 0 87 [.ref l0, .int l1] [] rfl ?_
          exact e97_87 d _ ih _ _ _ _ h
        · rw [if_neg hb] at h
          refine rn_steps 1 86 [.ref l0, .int l1] [.int l1] rfl ?_
          cases h
          exact rn_ret rfl rfl rfl
noncomputable def f97_13 (l0 : Nat) (s0 : Int32) (s1 : Nat) (σ : xM) : Option (Int32 × xM) :=
  (cO σ s1 7).bind fun u10 =>
  (f114 s1 s0 σ).bind fun y1 =>
  if y1.1 = 0 then
  (gR y1.2 l0 7 5).bind fun r2 =>
  (gR y1.2 l0 7 1).bind fun r3 =>
  (gR y1.2 r3 0 12).bind fun r4 =>
  (gR y1.2 l0 7 1).bind fun r5 =>
  (cO y1.2 r5 0).bind fun u9 =>
  (f3 r5 y1.2).bind fun y6 =>
  (cO y6.2 r2 6).bind fun u8 =>
  (f57 r2 r4 y6.1 y6.2).bind fun y7 =>
  f97_44 1100 l0 0 y7
  else
  some ((-1), y1.2)
set_option maxRecDepth 20000 in
set_option maxHeartbeats 1000000 in
theorem e97_13 (d : Nat) (l0 : Nat) (s0 : Int32) (s1 : Nat) (x1 : Value) (σ : xM) (y : Int32 × xM) (h : f97_13 l0 s0 s1 σ = some y) : Rn (d + 3) 97 13 [.ref l0, x1] [.int s0, .ref s1] σ (some (.int y.1), y.2) := by
  unfold f97_13 at h
  obtain ⟨u10, hu10, h⟩ := Option.bind_eq_some_iff.mp h
  obtain ⟨y1, hy1, h⟩ := Option.bind_eq_some_iff.mp h
  refine rn_callV [.int s0] rfl rfl ⟨rfl, rfl⟩ hu10 rfl rfl (e114 (d + 2) hy1) ?_
  refine rn_steps 0 16 [.ref l0, x1] [.int y1.1] rfl ?_
  refine rn_br (c := y1.1 = 0) rfl rfl decide_eq_true_iff (fun hb => ?_) (fun hb => ?_)
  · rw [if_pos hb] at h
    refine rn_steps 1 22 [.ref l0, x1] [.ref l0] rfl ?_
    obtain ⟨r2, hr2, h⟩ := Option.bind_eq_some_iff.mp h
    refine rn_gR (c := 7) (f := 5) rfl rfl ⟨⟨rfl, rfl⟩, rfl⟩ hr2 ?_
    refine rn_steps 1 26 [.ref l0, x1] [.ref l0, .ref r2] rfl ?_
    obtain ⟨r3, hr3, h⟩ := Option.bind_eq_some_iff.mp h
    refine rn_gR (c := 7) (f := 1) rfl rfl ⟨⟨rfl, rfl⟩, rfl⟩ hr3 ?_
    refine rn_steps 0 29 [.ref l0, x1] [.ref r3, .ref r2] rfl ?_
    obtain ⟨r4, hr4, h⟩ := Option.bind_eq_some_iff.mp h
    refine rn_gR (c := 0) (f := 12) rfl rfl ⟨⟨rfl, rfl⟩, rfl⟩ hr4 ?_
    refine rn_steps 1 33 [.ref l0, x1] [.ref l0, .ref r4, .ref r2] rfl ?_
    obtain ⟨r5, hr5, h⟩ := Option.bind_eq_some_iff.mp h
    refine rn_gR (c := 7) (f := 1) rfl rfl ⟨⟨rfl, rfl⟩, rfl⟩ hr5 ?_
    refine rn_steps 0 36 [.ref l0, x1] [.ref r5, .ref r4, .ref r2] rfl ?_
    obtain ⟨u9, hu9, h⟩ := Option.bind_eq_some_iff.mp h
    obtain ⟨y6, hy6, h⟩ := Option.bind_eq_some_iff.mp h
    refine rn_callV [] rfl rfl ⟨rfl, rfl⟩ hu9 rfl rfl (e3 (d + 2) hy6) ?_
    refine rn_steps 0 39 [.ref l0, x1] [.int y6.1, .ref r4, .ref r2] rfl ?_
    obtain ⟨u8, hu8, h⟩ := Option.bind_eq_some_iff.mp h
    obtain ⟨y7, hy7, h⟩ := Option.bind_eq_some_iff.mp h
    refine rn_callV [.ref r4, .int y6.1] rfl rfl ⟨rfl, rfl⟩ hu8 rfl rfl (e57 d hy7) ?_
    refine rn_steps 2 44 [.ref l0, .int 0] [] rfl ?_
    exact e97_44 d 1100 _ _ _ _ h
  · rw [if_neg hb] at h
    refine rn_steps 1 20 [.ref l0, x1] [.int (-1)] rfl ?_
    cases h
    exact rn_ret rfl rfl rfl
/-- LastAsked.judge()I -/
noncomputable def f97 (l0 : Nat) (σ : xM) : Option (Int32 × xM) :=
  (cO σ l0 7).bind fun u2 =>
  (f115 l0 σ).bind fun y1 =>
  if y1.1 = 0 then
  f97_13 l0 1 l0 y1.2
  else
  f97_13 l0 0 l0 y1.2
set_option maxRecDepth 20000 in
set_option maxHeartbeats 1000000 in
theorem e97 (d : Nat) {l0 : Nat} {σ : xM} {y : Int32 × xM} (h : f97 l0 σ = some y) : Rn (d + 3) 97 0 [.ref l0, .retAddr 0] [] σ (some (.int y.1), y.2) := by
  unfold f97 at h
  refine rn_steps 2 2 [.ref l0, .retAddr 0] [.ref l0, .ref l0] rfl ?_
  obtain ⟨u2, hu2, h⟩ := Option.bind_eq_some_iff.mp h
  obtain ⟨y1, hy1, h⟩ := Option.bind_eq_some_iff.mp h
  refine rn_callV [] rfl rfl ⟨rfl, rfl⟩ hu2 rfl rfl (e115 (d + 2) hy1) ?_
  refine rn_steps 0 5 [.ref l0, .retAddr 0] [.int y1.1, .ref l0] rfl ?_
  refine rn_br (c := y1.1 = 0) rfl rfl decide_eq_true_iff (fun hb => ?_) (fun hb => ?_)
  · rw [if_pos hb] at h
    refine rn_steps 1 13 [.ref l0, .retAddr 0] [.int 1, .ref l0] rfl ?_
    exact e97_13 d _ _ _ _ _ _ h
  · rw [if_neg hb] at h
    refine rn_steps 2 13 [.ref l0, .retAddr 0] [.int 0, .ref l0] rfl ?_
    exact e97_13 d _ _ _ _ _ _ h
noncomputable def f121_26 (s0 : Int32) (σ : xM) : Option (Int32 × xM) :=
  some (s0, σ)
set_option maxRecDepth 20000 in
set_option maxHeartbeats 1000000 in
theorem e121_26 (d : Nat) (s0 : Int32) (x0 x1 : Value) (σ : xM) (y : Int32 × xM) (h : f121_26 s0 σ = some y) : Rn (d + 1) 121 26 [x0, x1] [.int s0] σ (some (.int y.1), y.2) := by
  unfold f121_26 at h
  cases h
  exact rn_ret rfl rfl rfl
noncomputable def f121_25 (σ : xM) : Option (Int32 × xM) :=
  f121_26 2 σ
set_option maxRecDepth 20000 in
set_option maxHeartbeats 1000000 in
theorem e121_25 (d : Nat) (x0 x1 : Value) (σ : xM) (y : Int32 × xM) (h : f121_25 σ = some y) : Rn (d + 1) 121 25 [x0, x1] [] σ (some (.int y.1), y.2) := by
  unfold f121_25 at h
  refine rn_steps 1 26 [x0, x1] [.int 2] rfl ?_
  exact e121_26 d _ _ _ _ _ h
/-- LastAsked.shameOr(I)I -/
noncomputable def f121 (l0 : Nat) (l1 : Int32) (σ : xM) : Option (Int32 × xM) :=
  (cO σ l0 7).bind fun u2 =>
  (f115 l0 σ).bind fun y1 =>
  if y1.1 = 0 then
  f121_26 1 y1.2
  else
  if l1 < 0 then
  f121_25 y1.2
  else
  if 9 < l1 then
  f121_25 y1.2
  else
  f121_26 0 y1.2
set_option maxRecDepth 20000 in
set_option maxHeartbeats 1000000 in
theorem e121 (d : Nat) {l0 : Nat} {l1 : Int32} {σ : xM} {y : Int32 × xM} (h : f121 l0 l1 σ = some y) : Rn (d + 1) 121 0 [.ref l0, .int l1] [] σ (some (.int y.1), y.2) := by
  unfold f121 at h
  refine rn_steps 1 1 [.ref l0, .int l1] [.ref l0] rfl ?_
  obtain ⟨u2, hu2, h⟩ := Option.bind_eq_some_iff.mp h
  obtain ⟨y1, hy1, h⟩ := Option.bind_eq_some_iff.mp h
  refine rn_callV [] rfl rfl ⟨rfl, rfl⟩ hu2 rfl rfl (e115 d hy1) ?_
  refine rn_steps 0 4 [.ref l0, .int l1] [.int y1.1] rfl ?_
  refine rn_br (c := ¬ y1.1 = 0) rfl rfl decide_eq_true_iff (fun hb => ?_) (fun hb => ?_)
  · rw [if_neg hb] at h
    refine rn_steps 1 12 [.ref l0, .int l1] [.int l1] rfl ?_
    refine rn_br (c := l1 < 0) rfl rfl decide_eq_true_iff (fun hb => ?_) (fun hb => ?_)
    · rw [if_pos hb] at h
      refine rn_steps 0 25 [.ref l0, .int l1] [] rfl ?_
      exact e121_25 d _ _ _ _ h
    · rw [if_neg hb] at h
      refine rn_steps 2 18 [.ref l0, .int l1] [.int 9, .int l1] rfl ?_
      refine rn_br (c := 9 < l1) rfl rfl decide_eq_true_iff (fun hb => ?_) (fun hb => ?_)
      · rw [if_pos hb] at h
        refine rn_steps 0 25 [.ref l0, .int l1] [] rfl ?_
        exact e121_25 d _ _ _ _ h
      · rw [if_neg hb] at h
        refine rn_steps 2 26 [.ref l0, .int l1] [.int 0] rfl ?_
        exact e121_26 d _ _ _ _ _ h
  · rw [if_pos (Decidable.not_not.mp hb)] at h
    refine rn_steps 2 26 [.ref l0, .int l1] [.int 1] rfl ?_
    exact e121_26 d _ _ _ _ _ h
noncomputable def f142_43 (s0 : Int32) (σ : xM) : Option (Int32 × xM) :=
  some (s0, σ)
set_option maxRecDepth 20000 in
set_option maxHeartbeats 1000000 in
theorem e142_43 (d : Nat) (s0 : Int32) (x0 x1 x2 x3 : Value) (σ : xM) (y : Int32 × xM) (h : f142_43 s0 σ = some y) : Rn (d + 0) 142 43 [x0, x1, x2, x3] [.int s0] σ (some (.int y.1), y.2) := by
  unfold f142_43 at h
  cases h
  exact rn_ret rfl rfl rfl
noncomputable def f142_32 (s0 : Int32) (σ : xM) : Option (Int32 × xM) :=
  some (s0, σ)
set_option maxRecDepth 20000 in
set_option maxHeartbeats 1000000 in
theorem e142_32 (d : Nat) (s0 : Int32) (x0 x1 x2 x3 : Value) (σ : xM) (y : Int32 × xM) (h : f142_32 s0 σ = some y) : Rn (d + 0) 142 32 [x0, x1, x2, x3] [.int s0] σ (some (.int y.1), y.2) := by
  unfold f142_32 at h
  cases h
  exact rn_ret rfl rfl rfl
noncomputable def f142_17 (s0 : Int32) (σ : xM) : Option (Int32 × xM) :=
  some (s0, σ)
set_option maxRecDepth 20000 in
set_option maxHeartbeats 1000000 in
theorem e142_17 (d : Nat) (s0 : Int32) (x0 x1 x2 x3 : Value) (σ : xM) (y : Int32 × xM) (h : f142_17 s0 σ = some y) : Rn (d + 0) 142 17 [x0, x1, x2, x3] [.int s0] σ (some (.int y.1), y.2) := by
  unfold f142_17 at h
  cases h
  exact rn_ret rfl rfl rfl
noncomputable def f142_16 (σ : xM) : Option (Int32 × xM) :=
  f142_17 0 σ
set_option maxRecDepth 20000 in
set_option maxHeartbeats 1000000 in
theorem e142_16 (d : Nat) (x0 x1 x2 x3 : Value) (σ : xM) (y : Int32 × xM) (h : f142_16 σ = some y) : Rn (d + 0) 142 16 [x0, x1, x2, x3] [] σ (some (.int y.1), y.2) := by
  unfold f142_16 at h
  refine rn_steps 1 17 [x0, x1, x2, x3] [.int 0] rfl ?_
  exact e142_17 d _ _ _ _ _ _ _ h
/-- LastAsked.payoff(IZZZ)I -/
noncomputable def f142 (l0 : Int32) (l1 : Int32) (l2 : Int32) (l3 : Int32) (σ : xM) : Option (Int32 × xM) :=
  if l2 = 0 then
  if l1 = 0 then
  f142_16 σ
  else
  if l3 = 0 then
  f142_17 1 σ
  else
  f142_16 σ
  else
  if l1 = 0 then
  if l3 = 0 then
  f142_43 (-l0) σ
  else
  f142_43 (-1) σ
  else
  if l3 = 0 then
  f142_32 (-2) σ
  else
  f142_32 4 σ
set_option maxRecDepth 20000 in
set_option maxHeartbeats 1000000 in
theorem e142 (d : Nat) {l0 : Int32} {l1 : Int32} {l2 : Int32} {l3 : Int32} {σ : xM} {y : Int32 × xM} (h : f142 l0 l1 l2 l3 σ = some y) : Rn (d + 0) 142 0 [.int l0, .int l1, .int l2, .int l3] [] σ (some (.int y.1), y.2) := by
  unfold f142 at h
  refine rn_steps 1 1 [.int l0, .int l1, .int l2, .int l3] [.int l2] rfl ?_
  refine rn_br (c := ¬ l2 = 0) rfl rfl decide_eq_true_iff (fun hb => ?_) (fun hb => ?_)
  · rw [if_neg hb] at h
    refine rn_steps 1 19 [.int l0, .int l1, .int l2, .int l3] [.int l1] rfl ?_
    refine rn_br (c := l1 = 0) rfl rfl decide_eq_true_iff (fun hb => ?_) (fun hb => ?_)
    · rw [if_pos hb] at h
      refine rn_steps 1 34 [.int l0, .int l1, .int l2, .int l3] [.int l3] rfl ?_
      refine rn_br (c := l3 = 0) rfl rfl decide_eq_true_iff (fun hb => ?_) (fun hb => ?_)
      · rw [if_pos hb] at h
        refine rn_steps 2 43 [.int l0, .int l1, .int l2, .int l3] [.int (-l0)] rfl ?_
        exact e142_43 d _ _ _ _ _ _ _ h
      · rw [if_neg hb] at h
        refine rn_steps 2 43 [.int l0, .int l1, .int l2, .int l3] [.int (-1)] rfl ?_
        exact e142_43 d _ _ _ _ _ _ _ h
    · rw [if_neg hb] at h
      refine rn_steps 1 23 [.int l0, .int l1, .int l2, .int l3] [.int l3] rfl ?_
      refine rn_br (c := l3 = 0) rfl rfl decide_eq_true_iff (fun hb => ?_) (fun hb => ?_)
      · rw [if_pos hb] at h
        refine rn_steps 1 32 [.int l0, .int l1, .int l2, .int l3] [.int (-2)] rfl ?_
        exact e142_32 d _ _ _ _ _ _ _ h
      · rw [if_neg hb] at h
        refine rn_steps 2 32 [.int l0, .int l1, .int l2, .int l3] [.int 4] rfl ?_
        exact e142_32 d _ _ _ _ _ _ _ h
  · rw [if_pos (Decidable.not_not.mp hb)] at h
    refine rn_steps 1 5 [.int l0, .int l1, .int l2, .int l3] [.int l1] rfl ?_
    refine rn_br (c := l1 = 0) rfl rfl decide_eq_true_iff (fun hb => ?_) (fun hb => ?_)
    · rw [if_pos hb] at h
      refine rn_steps 0 16 [.int l0, .int l1, .int l2, .int l3] [] rfl ?_
      exact e142_16 d _ _ _ _ _ _ h
    · rw [if_neg hb] at h
      refine rn_steps 1 9 [.int l0, .int l1, .int l2, .int l3] [.int l3] rfl ?_
      refine rn_br (c := ¬ l3 = 0) rfl rfl decide_eq_true_iff (fun hb => ?_) (fun hb => ?_)
      · rw [if_neg hb] at h
        refine rn_steps 0 16 [.int l0, .int l1, .int l2, .int l3] [] rfl ?_
        exact e142_16 d _ _ _ _ _ _ h
      · rw [if_pos (Decidable.not_not.mp hb)] at h
        refine rn_steps 2 17 [.int l0, .int l1, .int l2, .int l3] [.int 1] rfl ?_
        exact e142_17 d _ _ _ _ _ _ _ h
/-- LastAsked.begs(IZZZ)I -/
noncomputable def f98 (l0 : Nat) (l1 : Int32) (l2 : Int32) (l3 : Int32) (l4 : Int32) (σ : xM) : Option (Int32 × xM) :=
  (cO σ l0 7).bind fun u5 =>
  (f121 l0 l1 σ).bind fun y1 =>
  (cO y1.2 l0 7).bind fun u4 =>
  (f114 l0 y1.1 y1.2).bind fun y2 =>
  if y2.1 = 0 then
  (f142 l1 l2 l3 l4 y2.2).bind fun y3 =>
  some (y3.1, y3.2)
  else
  some ((-100), y2.2)
set_option maxRecDepth 20000 in
set_option maxHeartbeats 1000000 in
theorem e98 (d : Nat) {l0 : Nat} {l1 : Int32} {l2 : Int32} {l3 : Int32} {l4 : Int32} {σ : xM} {y : Int32 × xM} (h : f98 l0 l1 l2 l3 l4 σ = some y) : Rn (d + 2) 98 0 [.ref l0, .int l1, .int l2, .int l3, .int l4] [] σ (some (.int y.1), y.2) := by
  unfold f98 at h
  refine rn_steps 3 3 [.ref l0, .int l1, .int l2, .int l3, .int l4] [.int l1, .ref l0, .ref l0] rfl ?_
  obtain ⟨u5, hu5, h⟩ := Option.bind_eq_some_iff.mp h
  obtain ⟨y1, hy1, h⟩ := Option.bind_eq_some_iff.mp h
  refine rn_callV [.int l1] rfl rfl ⟨rfl, rfl⟩ hu5 rfl rfl (e121 d hy1) ?_
  refine rn_steps 0 6 [.ref l0, .int l1, .int l2, .int l3, .int l4] [.int y1.1, .ref l0] rfl ?_
  obtain ⟨u4, hu4, h⟩ := Option.bind_eq_some_iff.mp h
  obtain ⟨y2, hy2, h⟩ := Option.bind_eq_some_iff.mp h
  refine rn_callV [.int y1.1] rfl rfl ⟨rfl, rfl⟩ hu4 rfl rfl (e114 (d + 1) hy2) ?_
  refine rn_steps 0 9 [.ref l0, .int l1, .int l2, .int l3, .int l4] [.int y2.1] rfl ?_
  refine rn_br (c := y2.1 = 0) rfl rfl decide_eq_true_iff (fun hb => ?_) (fun hb => ?_)
  · rw [if_pos hb] at h
    refine rn_steps 4 20 [.ref l0, .int l1, .int l2, .int l3, .int l4] [.int l4, .int l3, .int l2, .int l1] rfl ?_
    obtain ⟨y3, hy3, h⟩ := Option.bind_eq_some_iff.mp h
    refine rn_callS [.int l1, .int l2, .int l3, .int l4] rfl rfl rfl ⟨rfl, rfl, rfl⟩ rfl rfl (e142 (d + 1) hy3) ?_
    refine rn_steps 0 23 [.ref l0, .int l1, .int l2, .int l3, .int l4] [.int y3.1] rfl ?_
    cases h
    exact rn_ret rfl rfl rfl
  · rw [if_neg hb] at h
    refine rn_steps 1 14 [.ref l0, .int l1, .int l2, .int l3, .int l4] [.int (-100)] rfl ?_
    cases h
    exact rn_ret rfl rfl rfl
noncomputable def f143_55 (s0 : Int32) (σ : xM) : Option (Int32 × xM) :=
  rZ s0 σ
set_option maxRecDepth 20000 in
set_option maxHeartbeats 1000000 in
theorem e143_55 (d : Nat) (s0 : Int32) (x0 x1 x2 : Value) (σ : xM) (y : Int32 × xM) (h : f143_55 s0 σ = some y) : Rn (d + 1) 143 55 [x0, x1, x2] [.int s0] σ (some (.int y.1), y.2) := by
  unfold f143_55 at h
  exact rn_retZ rfl rfl h
noncomputable def f143_54 (σ : xM) : Option (Int32 × xM) :=
  f143_55 0 σ
set_option maxRecDepth 20000 in
set_option maxHeartbeats 1000000 in
theorem e143_54 (d : Nat) (x0 x1 x2 : Value) (σ : xM) (y : Int32 × xM) (h : f143_54 σ = some y) : Rn (d + 1) 143 54 [x0, x1, x2] [] σ (some (.int y.1), y.2) := by
  unfold f143_54 at h
  refine rn_steps 1 55 [x0, x1, x2] [.int 0] rfl ?_
  exact e143_55 d _ _ _ _ _ _ h
noncomputable def f143_43 (s0 : Int32) (s1 : Int32) (s2 : Int32) (s3 : Int32) (σ : xM) : Option (Int32 × xM) :=
  (f142 s2 s1 s0 1 σ).bind fun y1 =>
  if s3 < y1.1 then
  f143_54 y1.2
  else
  f143_55 1 y1.2
set_option maxRecDepth 20000 in
set_option maxHeartbeats 1000000 in
theorem e143_43 (d : Nat) (s0 : Int32) (s1 : Int32) (s2 : Int32) (s3 : Int32) (x0 x1 x2 : Value) (σ : xM) (y : Int32 × xM) (h : f143_43 s0 s1 s2 s3 σ = some y) : Rn (d + 1) 143 43 [x0, x1, x2] [.int s0, .int s1, .int s2, .int s3] σ (some (.int y.1), y.2) := by
  unfold f143_43 at h
  refine rn_steps 1 44 [x0, x1, x2] [.int 1, .int s0, .int s1, .int s2, .int s3] rfl ?_
  obtain ⟨y1, hy1, h⟩ := Option.bind_eq_some_iff.mp h
  refine rn_callS [.int s2, .int s1, .int s0, .int 1] rfl rfl rfl ⟨rfl, rfl, rfl⟩ rfl rfl (e142 d hy1) ?_
  refine rn_steps 0 47 [x0, x1, x2] [.int y1.1, .int s3] rfl ?_
  refine rn_br (c := s3 < y1.1) rfl rfl decide_eq_true_iff (fun hb => ?_) (fun hb => ?_)
  · rw [if_pos hb] at h
    refine rn_steps 0 54 [x0, x1, x2] [] rfl ?_
    exact e143_54 d _ _ _ _ _ h
  · rw [if_neg hb] at h
    refine rn_steps 2 55 [x0, x1, x2] [.int 1] rfl ?_
    exact e143_55 d _ _ _ _ _ _ h
noncomputable def f143_17 (l0 : Int32) (l1 : Int32) (l2 : Int32) (s0 : Int32) (s1 : Int32) (s2 : Int32) (σ : xM) : Option (Int32 × xM) :=
  (f142 s1 s0 l2 0 σ).bind fun y1 =>
  if s2 < y1.1 then
  f143_54 y1.2
  else
  (f142 l0 l1 l2 1 y1.2).bind fun y2 =>
  if l2 = 0 then
  f143_43 1 l1 l0 y2.1 y2.2
  else
  f143_43 0 l1 l0 y2.1 y2.2
set_option maxRecDepth 20000 in
set_option maxHeartbeats 1000000 in
theorem e143_17 (d : Nat) (l0 : Int32) (l1 : Int32) (l2 : Int32) (s0 : Int32) (s1 : Int32) (s2 : Int32) (σ : xM) (y : Int32 × xM) (h : f143_17 l0 l1 l2 s0 s1 s2 σ = some y) : Rn (d + 1) 143 17 [.int l0, .int l1, .int l2] [.int s0, .int s1, .int s2] σ (some (.int y.1), y.2) := by
  unfold f143_17 at h
  refine rn_steps 2 19 [.int l0, .int l1, .int l2] [.int 0, .int l2, .int s0, .int s1, .int s2] rfl ?_
  obtain ⟨y1, hy1, h⟩ := Option.bind_eq_some_iff.mp h
  refine rn_callS [.int s1, .int s0, .int l2, .int 0] rfl rfl rfl ⟨rfl, rfl, rfl⟩ rfl rfl (e142 d hy1) ?_
  refine rn_steps 0 22 [.int l0, .int l1, .int l2] [.int y1.1, .int s2] rfl ?_
  refine rn_br (c := s2 < y1.1) rfl rfl decide_eq_true_iff (fun hb => ?_) (fun hb => ?_)
  · rw [if_pos hb] at h
    refine rn_steps 0 54 [.int l0, .int l1, .int l2] [] rfl ?_
    exact e143_54 d _ _ _ _ _ h
  · rw [if_neg hb] at h
    refine rn_steps 4 29 [.int l0, .int l1, .int l2] [.int 1, .int l2, .int l1, .int l0] rfl ?_
    obtain ⟨y2, hy2, h⟩ := Option.bind_eq_some_iff.mp h
    refine rn_callS [.int l0, .int l1, .int l2, .int 1] rfl rfl rfl ⟨rfl, rfl, rfl⟩ rfl rfl (e142 d hy2) ?_
    refine rn_steps 3 35 [.int l0, .int l1, .int l2] [.int l2, .int l1, .int l0, .int y2.1] rfl ?_
    refine rn_br (c := ¬ l2 = 0) rfl rfl decide_eq_true_iff (fun hb => ?_) (fun hb => ?_)
    · rw [if_neg hb] at h
      refine rn_steps 1 43 [.int l0, .int l1, .int l2] [.int 0, .int l1, .int l0, .int y2.1] rfl ?_
      exact e143_43 d _ _ _ _ _ _ _ _ _ h
    · rw [if_pos (Decidable.not_not.mp hb)] at h
      refine rn_steps 2 43 [.int l0, .int l1, .int l2] [.int 1, .int l1, .int l0, .int y2.1] rfl ?_
      exact e143_43 d _ _ _ _ _ _ _ _ _ h
/-- LastAsked.isRest(IZZ)Z -/
noncomputable def f143 (l0 : Int32) (l1 : Int32) (l2 : Int32) (σ : xM) : Option (Int32 × xM) :=
  (f142 l0 l1 l2 0 σ).bind fun y1 =>
  if l1 = 0 then
  f143_17 l0 l1 l2 1 l0 y1.1 y1.2
  else
  f143_17 l0 l1 l2 0 l0 y1.1 y1.2
set_option maxRecDepth 20000 in
set_option maxHeartbeats 1000000 in
theorem e143 (d : Nat) {l0 : Int32} {l1 : Int32} {l2 : Int32} {σ : xM} {y : Int32 × xM} (h : f143 l0 l1 l2 σ = some y) : Rn (d + 1) 143 0 [.int l0, .int l1, .int l2] [] σ (some (.int y.1), y.2) := by
  unfold f143 at h
  refine rn_steps 4 4 [.int l0, .int l1, .int l2] [.int 0, .int l2, .int l1, .int l0] rfl ?_
  obtain ⟨y1, hy1, h⟩ := Option.bind_eq_some_iff.mp h
  refine rn_callS [.int l0, .int l1, .int l2, .int 0] rfl rfl rfl ⟨rfl, rfl, rfl⟩ rfl rfl (e142 d hy1) ?_
  refine rn_steps 2 9 [.int l0, .int l1, .int l2] [.int l1, .int l0, .int y1.1] rfl ?_
  refine rn_br (c := ¬ l1 = 0) rfl rfl decide_eq_true_iff (fun hb => ?_) (fun hb => ?_)
  · rw [if_neg hb] at h
    refine rn_steps 1 17 [.int l0, .int l1, .int l2] [.int 0, .int l0, .int y1.1] rfl ?_
    exact e143_17 d _ _ _ _ _ _ _ _ h
  · rw [if_pos (Decidable.not_not.mp hb)] at h
    refine rn_steps 2 17 [.int l0, .int l1, .int l2] [.int 1, .int l0, .int y1.1] rfl ?_
    exact e143_17 d _ _ _ _ _ _ _ _ h
