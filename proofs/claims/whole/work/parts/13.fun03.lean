noncomputable def f99_61 (l2 : Int32) (σ : xM) : Option (Int32 × xM) :=
  some (l2, σ)
set_option maxRecDepth 20000 in
set_option maxHeartbeats 1000000 in
theorem e99_61 (d : Nat) (l2 : Int32) (x0 x1 x3 : Value) (σ : xM) (y : Int32 × xM) (h : f99_61 l2 σ = some y) : Rn (d + 2) 99 61 [x0, x1, .int l2, x3] [] σ (some (.int y.1), y.2) := by
  unfold f99_61 at h
  refine rn_steps 1 62 [x0, x1, .int l2, x3] [.int l2] rfl ?_
  cases h
  exact rn_ret rfl rfl rfl
noncomputable def f99_55 (K18 : Int32 → Int32 → Int32 → xM → Option (Int32 × xM)) (l1 : Int32) (l2 : Int32) (l3 : Int32) (σ : xM) : Option (Int32 × xM) :=
  K18 l1 l2 (l3 + 1) σ
set_option maxRecDepth 20000 in
set_option maxHeartbeats 1000000 in
theorem e99_55 (d : Nat) (K18 : Int32 → Int32 → Int32 → xM → Option (Int32 × xM)) (hK18 : ∀ (l1 : Int32) (l2 : Int32) (l3 : Int32) (x0 : Value) (σ : xM) (y : Int32 × xM), K18 l1 l2 l3 σ = some y → Rn (d + 2) 99 18 [x0, .int l1, .int l2, .int l3] [] σ (some (.int y.1), y.2)) (l1 : Int32) (l2 : Int32) (l3 : Int32) (x0 : Value) (σ : xM) (y : Int32 × xM) (h : f99_55 K18 l1 l2 l3 σ = some y) : Rn (d + 2) 99 55 [x0, .int l1, .int l2, .int l3] [] σ (some (.int y.1), y.2) := by
  unfold f99_55 at h
  refine rn_steps 2 18 [x0, .int l1, .int l2, .int (l3 + 1)] [] rfl ?_
  exact hK18 _ _ _ _ _ _ h
noncomputable def f99_46 (K18 : Int32 → Int32 → Int32 → xM → Option (Int32 × xM)) (l1 : Int32) (l2 : Int32) (l3 : Int32) (s0 : Int32) (s1 : Int32) (s2 : Int32) (σ : xM) : Option (Int32 × xM) :=
  (f143 s2 s1 s0 σ).bind fun y1 =>
  if y1.1 = 0 then
  f99_55 K18 l1 l2 l3 y1.2
  else
  f99_55 K18 l1 (l2 + 1) l3 y1.2
set_option maxRecDepth 20000 in
set_option maxHeartbeats 1000000 in
theorem e99_46 (d : Nat) (K18 : Int32 → Int32 → Int32 → xM → Option (Int32 × xM)) (hK18 : ∀ (l1 : Int32) (l2 : Int32) (l3 : Int32) (x0 : Value) (σ : xM) (y : Int32 × xM), K18 l1 l2 l3 σ = some y → Rn (d + 2) 99 18 [x0, .int l1, .int l2, .int l3] [] σ (some (.int y.1), y.2)) (l1 : Int32) (l2 : Int32) (l3 : Int32) (s0 : Int32) (s1 : Int32) (s2 : Int32) (x0 : Value) (σ : xM) (y : Int32 × xM) (h : f99_46 K18 l1 l2 l3 s0 s1 s2 σ = some y) : Rn (d + 2) 99 46 [x0, .int l1, .int l2, .int l3] [.int s0, .int s1, .int s2] σ (some (.int y.1), y.2) := by
  unfold f99_46 at h
  obtain ⟨y1, hy1, h⟩ := Option.bind_eq_some_iff.mp h
  refine rn_callS [.int s2, .int s1, .int s0] rfl rfl rfl ⟨rfl, rfl, rfl⟩ rfl rfl (e143 d hy1) ?_
  refine rn_steps 0 49 [x0, .int l1, .int l2, .int l3] [.int y1.1] rfl ?_
  refine rn_br (c := y1.1 = 0) rfl rfl decide_eq_true_iff (fun hb => ?_) (fun hb => ?_)
  · rw [if_pos hb] at h
    refine rn_steps 0 55 [x0, .int l1, .int l2, .int l3] [] rfl ?_
    exact e99_55 d _ hK18 _ _ _ _ _ _ h
  · rw [if_neg hb] at h
    refine rn_steps 1 55 [x0, .int l1, .int (l2 + 1), .int l3] [] rfl ?_
    exact e99_55 d _ hK18 _ _ _ _ _ _ h
noncomputable def f99_34 (K18 : Int32 → Int32 → Int32 → xM → Option (Int32 × xM)) (l1 : Int32) (l2 : Int32) (l3 : Int32) (s0 : Int32) (s1 : Int32) (σ : xM) : Option (Int32 × xM) :=
  (rI l3 2).bind fun v1 =>
  if v1 = 1 then
  f99_46 K18 l1 l2 l3 1 s0 s1 σ
  else
  f99_46 K18 l1 l2 l3 0 s0 s1 σ
set_option maxRecDepth 20000 in
set_option maxHeartbeats 1000000 in
theorem e99_34 (d : Nat) (K18 : Int32 → Int32 → Int32 → xM → Option (Int32 × xM)) (hK18 : ∀ (l1 : Int32) (l2 : Int32) (l3 : Int32) (x0 : Value) (σ : xM) (y : Int32 × xM), K18 l1 l2 l3 σ = some y → Rn (d + 2) 99 18 [x0, .int l1, .int l2, .int l3] [] σ (some (.int y.1), y.2)) (l1 : Int32) (l2 : Int32) (l3 : Int32) (s0 : Int32) (s1 : Int32) (x0 : Value) (σ : xM) (y : Int32 × xM) (h : f99_34 K18 l1 l2 l3 s0 s1 σ = some y) : Rn (d + 2) 99 34 [x0, .int l1, .int l2, .int l3] [.int s0, .int s1] σ (some (.int y.1), y.2) := by
  unfold f99_34 at h
  refine rn_steps 2 36 [x0, .int l1, .int l2, .int l3] [.int 2, .int l3, .int s0, .int s1] rfl ?_
  obtain ⟨v1, hv1, h⟩ := Option.bind_eq_some_iff.mp h
  refine rn_rI rfl hv1 ?_
  refine rn_steps 1 38 [x0, .int l1, .int l2, .int l3] [.int 1, .int v1, .int s0, .int s1] rfl ?_
  refine rn_br (c := ¬ v1 = 1) rfl rfl decide_eq_true_iff (fun hb => ?_) (fun hb => ?_)
  · rw [if_neg hb] at h
    refine rn_steps 1 46 [x0, .int l1, .int l2, .int l3] [.int 0, .int s0, .int s1] rfl ?_
    exact e99_46 d _ hK18 _ _ _ _ _ _ _ _ _ h
  · rw [if_pos (Decidable.not_not.mp hb)] at h
    refine rn_steps 2 46 [x0, .int l1, .int l2, .int l3] [.int 1, .int s0, .int s1] rfl ?_
    exact e99_46 d _ hK18 _ _ _ _ _ _ _ _ _ h
noncomputable def f99_18 : Nat → Int32 → Int32 → Int32 → xM → Option (Int32 × xM)
  | 0, _, _, _, _ => none
  | n + 1, l1, l2, l3, σ =>
    if 4 ≤ l3 then
    f99_61 l2 σ
    else
    if l3 < 2 then
    f99_34 (f99_18 n) l1 l2 l3 0 l1 σ
    else
    f99_34 (f99_18 n) l1 l2 l3 1 l1 σ
set_option maxRecDepth 20000 in
set_option maxHeartbeats 1000000 in
theorem e99_18 (d : Nat) : ∀ (n : Nat) (l1 : Int32) (l2 : Int32) (l3 : Int32) (x0 : Value) (σ : xM) (y : Int32 × xM), f99_18 n l1 l2 l3 σ = some y → Rn (d + 2) 99 18 [x0, .int l1, .int l2, .int l3] [] σ (some (.int y.1), y.2) := by
  intro n
  induction n with
  | zero => intro l1 l2 l3 x0 σ y h; cases h
  | succ n ih =>
    intro l1 l2 l3 x0 σ y h
    unfold f99_18 at h
    refine rn_steps 2 20 [x0, .int l1, .int l2, .int l3] [.int 4, .int l3] rfl ?_
    refine rn_br (c := 4 ≤ l3) rfl rfl decide_eq_true_iff (fun hb => ?_) (fun hb => ?_)
    · rw [if_pos hb] at h
      refine rn_steps 0 61 [x0, .int l1, .int l2, .int l3] [] rfl ?_
      exact e99_61 d _ _ _ _ _ _ h
    · rw [if_neg hb] at h
      refine rn_steps 3 26 [x0, .int l1, .int l2, .int l3] [.int 2, .int l3, .int l1] rfl ?_
      refine rn_br (c := l3 < 2) rfl rfl decide_eq_true_iff (fun hb => ?_) (fun hb => ?_)
      · rw [if_pos hb] at h
        refine rn_steps 1 34 [x0, .int l1, .int l2, .int l3] [.int 0, .int l1] rfl ?_
        exact e99_34 d _ ih _ _ _ _ _ _ _ _ h
      · rw [if_neg hb] at h
        refine rn_steps 2 34 [x0, .int l1, .int l2, .int l3] [.int 1, .int l1] rfl ?_
        exact e99_34 d _ ih _ _ _ _ _ _ _ _ h
/-- LastAsked.rests(I)I -/
noncomputable def f99 (l0 : Nat) (l1 : Int32) (σ : xM) : Option (Int32 × xM) :=
  (cO σ l0 7).bind fun u4 =>
  (f121 l0 l1 σ).bind fun y1 =>
  (cO y1.2 l0 7).bind fun u3 =>
  (f114 l0 y1.1 y1.2).bind fun y2 =>
  if y2.1 = 0 then
  f99_18 1100 l1 0 0 y2.2
  else
  some ((-1), y2.2)
set_option maxRecDepth 20000 in
set_option maxHeartbeats 1000000 in
theorem e99 (d : Nat) {l0 : Nat} {l1 : Int32} {σ : xM} {y : Int32 × xM} (h : f99 l0 l1 σ = some y) : Rn (d + 2) 99 0 [.ref l0, .int l1, .retAddr 0, .retAddr 0] [] σ (some (.int y.1), y.2) := by
  unfold f99 at h
  refine rn_steps 3 3 [.ref l0, .int l1, .retAddr 0, .retAddr 0] [.int l1, .ref l0, .ref l0] rfl ?_
  obtain ⟨u4, hu4, h⟩ := Option.bind_eq_some_iff.mp h
  obtain ⟨y1, hy1, h⟩ := Option.bind_eq_some_iff.mp h
  refine rn_callV [.int l1] rfl rfl ⟨rfl, rfl⟩ hu4 rfl rfl (e121 d hy1) ?_
  refine rn_steps 0 6 [.ref l0, .int l1, .retAddr 0, .retAddr 0] [.int y1.1, .ref l0] rfl ?_
  obtain ⟨u3, hu3, h⟩ := Option.bind_eq_some_iff.mp h
  obtain ⟨y2, hy2, h⟩ := Option.bind_eq_some_iff.mp h
  refine rn_callV [.int y1.1] rfl rfl ⟨rfl, rfl⟩ hu3 rfl rfl (e114 (d + 1) hy2) ?_
  refine rn_steps 0 9 [.ref l0, .int l1, .retAddr 0, .retAddr 0] [.int y2.1] rfl ?_
  refine rn_br (c := y2.1 = 0) rfl rfl decide_eq_true_iff (fun hb => ?_) (fun hb => ?_)
  · rw [if_pos hb] at h
    refine rn_steps 4 18 [.ref l0, .int l1, .int 0, .int 0] [] rfl ?_
    exact e99_18 d 1100 _ _ _ _ _ _ h
  · rw [if_neg hb] at h
    refine rn_steps 1 13 [.ref l0, .int l1, .retAddr 0, .retAddr 0] [.int (-1)] rfl ?_
    cases h
    exact rn_ret rfl rfl rfl
noncomputable def f100_67 (σ : xM) : Option (Int32 × xM) :=
  some ((-2), σ)
set_option maxRecDepth 20000 in
set_option maxHeartbeats 1000000 in
theorem e100_67 (d : Nat) (x0 x1 x2 : Value) (σ : xM) (y : Int32 × xM) (h : f100_67 σ = some y) : Rn (d + 2) 100 67 [x0, x1, x2] [] σ (some (.int y.1), y.2) := by
  unfold f100_67 at h
  refine rn_steps 1 69 [x0, x1, x2] [.int (-2)] rfl ?_
  cases h
  exact rn_ret rfl rfl rfl
noncomputable def f100_44 (K16 : Int32 → Int32 → xM → Option (Int32 × xM)) (l1 : Int32) (l2 : Int32) (s0 : Int32) (s1 : Int32) (s2 : Int32) (σ : xM) : Option (Int32 × xM) :=
  (f143 s2 s1 s0 σ).bind fun y1 =>
  if y1.1 = 0 then
  K16 l1 (l2 + 1) y1.2
  else
  (dI l2 2).bind fun v2 =>
  (rI l2 2).bind fun v3 =>
  some (((v2 * 10) + v3), y1.2)
set_option maxRecDepth 20000 in
set_option maxHeartbeats 1000000 in
theorem e100_44 (d : Nat) (K16 : Int32 → Int32 → xM → Option (Int32 × xM)) (hK16 : ∀ (l1 : Int32) (l2 : Int32) (x0 : Value) (σ : xM) (y : Int32 × xM), K16 l1 l2 σ = some y → Rn (d + 2) 100 16 [x0, .int l1, .int l2] [] σ (some (.int y.1), y.2)) (l1 : Int32) (l2 : Int32) (s0 : Int32) (s1 : Int32) (s2 : Int32) (x0 : Value) (σ : xM) (y : Int32 × xM) (h : f100_44 K16 l1 l2 s0 s1 s2 σ = some y) : Rn (d + 2) 100 44 [x0, .int l1, .int l2] [.int s0, .int s1, .int s2] σ (some (.int y.1), y.2) := by
  unfold f100_44 at h
  obtain ⟨y1, hy1, h⟩ := Option.bind_eq_some_iff.mp h
  refine rn_callS [.int s2, .int s1, .int s0] rfl rfl rfl ⟨rfl, rfl, rfl⟩ rfl rfl (e143 d hy1) ?_
  refine rn_steps 0 47 [x0, .int l1, .int l2] [.int y1.1] rfl ?_
  refine rn_br (c := y1.1 = 0) rfl rfl decide_eq_true_iff (fun hb => ?_) (fun hb => ?_)
  · rw [if_pos hb] at h
    refine rn_steps 2 16 [x0, .int l1, .int (l2 + 1)] [] rfl ?_
    exact hK16 _ _ _ _ _ h
  · rw [if_neg hb] at h
    refine rn_steps 2 52 [x0, .int l1, .int l2] [.int 2, .int l2] rfl ?_
    obtain ⟨v2, hv2, h⟩ := Option.bind_eq_some_iff.mp h
    refine rn_dI rfl hv2 ?_
    refine rn_steps 4 58 [x0, .int l1, .int l2] [.int 2, .int l2, .int (v2 * 10)] rfl ?_
    obtain ⟨v3, hv3, h⟩ := Option.bind_eq_some_iff.mp h
    refine rn_rI rfl hv3 ?_
    refine rn_steps 1 60 [x0, .int l1, .int l2] [.int ((v2 * 10) + v3)] rfl ?_
    cases h
    exact rn_ret rfl rfl rfl
noncomputable def f100_32 (K16 : Int32 → Int32 → xM → Option (Int32 × xM)) (l1 : Int32) (l2 : Int32) (s0 : Int32) (s1 : Int32) (σ : xM) : Option (Int32 × xM) :=
  (rI l2 2).bind fun v1 =>
  if v1 = 1 then
  f100_44 K16 l1 l2 1 s0 s1 σ
  else
  f100_44 K16 l1 l2 0 s0 s1 σ
set_option maxRecDepth 20000 in
set_option maxHeartbeats 1000000 in
theorem e100_32 (d : Nat) (K16 : Int32 → Int32 → xM → Option (Int32 × xM)) (hK16 : ∀ (l1 : Int32) (l2 : Int32) (x0 : Value) (σ : xM) (y : Int32 × xM), K16 l1 l2 σ = some y → Rn (d + 2) 100 16 [x0, .int l1, .int l2] [] σ (some (.int y.1), y.2)) (l1 : Int32) (l2 : Int32) (s0 : Int32) (s1 : Int32) (x0 : Value) (σ : xM) (y : Int32 × xM) (h : f100_32 K16 l1 l2 s0 s1 σ = some y) : Rn (d + 2) 100 32 [x0, .int l1, .int l2] [.int s0, .int s1] σ (some (.int y.1), y.2) := by
  unfold f100_32 at h
  refine rn_steps 2 34 [x0, .int l1, .int l2] [.int 2, .int l2, .int s0, .int s1] rfl ?_
  obtain ⟨v1, hv1, h⟩ := Option.bind_eq_some_iff.mp h
  refine rn_rI rfl hv1 ?_
  refine rn_steps 1 36 [x0, .int l1, .int l2] [.int 1, .int v1, .int s0, .int s1] rfl ?_
  refine rn_br (c := ¬ v1 = 1) rfl rfl decide_eq_true_iff (fun hb => ?_) (fun hb => ?_)
  · rw [if_neg hb] at h
    refine rn_steps 1 44 [x0, .int l1, .int l2] [.int 0, .int s0, .int s1] rfl ?_
    exact e100_44 d _ hK16 _ _ _ _ _ _ _ _ h
  · rw [if_pos (Decidable.not_not.mp hb)] at h
    refine rn_steps 2 44 [x0, .int l1, .int l2] [.int 1, .int s0, .int s1] rfl ?_
    exact e100_44 d _ hK16 _ _ _ _ _ _ _ _ h
noncomputable def f100_16 : Nat → Int32 → Int32 → xM → Option (Int32 × xM)
  | 0, _, _, _ => none
  | n + 1, l1, l2, σ =>
    if 4 ≤ l2 then
    f100_67 σ
    else
    if l2 < 2 then
    f100_32 (f100_16 n) l1 l2 0 l1 σ
    else
    f100_32 (f100_16 n) l1 l2 1 l1 σ
set_option maxRecDepth 20000 in
set_option maxHeartbeats 1000000 in
theorem e100_16 (d : Nat) : ∀ (n : Nat) (l1 : Int32) (l2 : Int32) (x0 : Value) (σ : xM) (y : Int32 × xM), f100_16 n l1 l2 σ = some y → Rn (d + 2) 100 16 [x0, .int l1, .int l2] [] σ (some (.int y.1), y.2) := by
  intro n
  induction n with
  | zero => intro l1 l2 x0 σ y h; cases h
  | succ n ih =>
    intro l1 l2 x0 σ y h
    unfold f100_16 at h
    refine rn_steps 2 18 [x0, .int l1, .int l2] [.int 4, .int l2] rfl ?_
    refine rn_br (c := 4 ≤ l2) rfl rfl decide_eq_true_iff (fun hb => ?_) (fun hb => ?_)
    · rw [if_pos hb] at h
      refine rn_steps 0 67 [x0, .int l1, .int l2] [] rfl ?_
      exact e100_67 d _ _ _ _ _ h
    · rw [if_neg hb] at h
      refine rn_steps 3 24 [x0, .int l1, .int l2] [.int 2, .int l2, .int l1] rfl ?_
      refine rn_br (c := l2 < 2) rfl rfl decide_eq_true_iff (fun hb => ?_) (fun hb => ?_)
      · rw [if_pos hb] at h
        refine rn_steps 1 32 [x0, .int l1, .int l2] [.int 0, .int l1] rfl ?_
        exact e100_32 d _ ih _ _ _ _ _ _ _ h
      · rw [if_neg hb] at h
        refine rn_steps 2 32 [x0, .int l1, .int l2] [.int 1, .int l1] rfl ?_
        exact e100_32 d _ ih _ _ _ _ _ _ _ h
/-- LastAsked.rest(I)I -/
noncomputable def f100 (l0 : Nat) (l1 : Int32) (σ : xM) : Option (Int32 × xM) :=
  (cO σ l0 7).bind fun u4 =>
  (f121 l0 l1 σ).bind fun y1 =>
  (cO y1.2 l0 7).bind fun u3 =>
  (f114 l0 y1.1 y1.2).bind fun y2 =>
  if y2.1 = 0 then
  f100_16 1100 l1 0 y2.2
  else
  some ((-1), y2.2)
set_option maxRecDepth 20000 in
set_option maxHeartbeats 1000000 in
theorem e100 (d : Nat) {l0 : Nat} {l1 : Int32} {σ : xM} {y : Int32 × xM} (h : f100 l0 l1 σ = some y) : Rn (d + 2) 100 0 [.ref l0, .int l1, .retAddr 0] [] σ (some (.int y.1), y.2) := by
  unfold f100 at h
  refine rn_steps 3 3 [.ref l0, .int l1, .retAddr 0] [.int l1, .ref l0, .ref l0] rfl ?_
  obtain ⟨u4, hu4, h⟩ := Option.bind_eq_some_iff.mp h
  obtain ⟨y1, hy1, h⟩ := Option.bind_eq_some_iff.mp h
  refine rn_callV [.int l1] rfl rfl ⟨rfl, rfl⟩ hu4 rfl rfl (e121 d hy1) ?_
  refine rn_steps 0 6 [.ref l0, .int l1, .retAddr 0] [.int y1.1, .ref l0] rfl ?_
  obtain ⟨u3, hu3, h⟩ := Option.bind_eq_some_iff.mp h
  obtain ⟨y2, hy2, h⟩ := Option.bind_eq_some_iff.mp h
  refine rn_callV [.int y1.1] rfl rfl ⟨rfl, rfl⟩ hu3 rfl rfl (e114 (d + 1) hy2) ?_
  refine rn_steps 0 9 [.ref l0, .int l1, .retAddr 0] [.int y2.1] rfl ?_
  refine rn_br (c := y2.1 = 0) rfl rfl decide_eq_true_iff (fun hb => ?_) (fun hb => ?_)
  · rw [if_pos hb] at h
    refine rn_steps 2 16 [.ref l0, .int l1, .int 0] [] rfl ?_
    exact e100_16 d 1100 _ _ _ _ _ h
  · rw [if_neg hb] at h
    refine rn_steps 1 13 [.ref l0, .int l1, .retAddr 0] [.int (-1)] rfl ?_
    cases h
    exact rn_ret rfl rfl rfl
noncomputable def f122_47 (s0 : Int32) (σ : xM) : Option (Int32 × xM) :=
  some (s0, σ)
set_option maxRecDepth 20000 in
set_option maxHeartbeats 1000000 in
theorem e122_47 (d : Nat) (s0 : Int32) (x0 x1 x2 x3 : Value) (σ : xM) (y : Int32 × xM) (h : f122_47 s0 σ = some y) : Rn (d + 1) 122 47 [x0, x1, x2, x3] [.int s0] σ (some (.int y.1), y.2) := by
  unfold f122_47 at h
  cases h
  exact rn_ret rfl rfl rfl
noncomputable def f122_26 (l0 : Nat) (s0 : Int32) (σ : xM) : Option (Int32 × xM) :=
  (cO σ l0 7).bind fun u2 =>
  (f115 l0 σ).bind fun y1 =>
  if y1.1 = 0 then
  f122_47 1 y1.2
  else
  if s0 = 0 then
  f122_47 2 y1.2
  else
  f122_47 0 y1.2
set_option maxRecDepth 20000 in
set_option maxHeartbeats 1000000 in
theorem e122_26 (d : Nat) (l0 : Nat) (s0 : Int32) (x1 x2 x3 : Value) (σ : xM) (y : Int32 × xM) (h : f122_26 l0 s0 σ = some y) : Rn (d + 1) 122 26 [.ref l0, x1, x2, x3] [.int s0] σ (some (.int y.1), y.2) := by
  unfold f122_26 at h
  refine rn_steps 2 28 [.ref l0, x1, x2, .int s0] [.ref l0] rfl ?_
  obtain ⟨u2, hu2, h⟩ := Option.bind_eq_some_iff.mp h
  obtain ⟨y1, hy1, h⟩ := Option.bind_eq_some_iff.mp h
  refine rn_callV [] rfl rfl ⟨rfl, rfl⟩ hu2 rfl rfl (e115 d hy1) ?_
  refine rn_steps 0 31 [.ref l0, x1, x2, .int s0] [.int y1.1] rfl ?_
  refine rn_br (c := ¬ y1.1 = 0) rfl rfl decide_eq_true_iff (fun hb => ?_) (fun hb => ?_)
  · rw [if_neg hb] at h
    refine rn_steps 1 39 [.ref l0, x1, x2, .int s0] [.int s0] rfl ?_
    refine rn_br (c := s0 = 0) rfl rfl decide_eq_true_iff (fun hb => ?_) (fun hb => ?_)
    · rw [if_pos hb] at h
      refine rn_steps 1 47 [.ref l0, x1, x2, .int s0] [.int 2] rfl ?_
      exact e122_47 d _ _ _ _ _ _ _ h
    · rw [if_neg hb] at h
      refine rn_steps 2 47 [.ref l0, x1, x2, .int s0] [.int 0] rfl ?_
      exact e122_47 d _ _ _ _ _ _ _ h
  · rw [if_pos (Decidable.not_not.mp hb)] at h
    refine rn_steps 2 47 [.ref l0, x1, x2, .int s0] [.int 1] rfl ?_
    exact e122_47 d _ _ _ _ _ _ _ h
noncomputable def f122_25 (l0 : Nat) (σ : xM) : Option (Int32 × xM) :=
  f122_26 l0 0 σ
set_option maxRecDepth 20000 in
set_option maxHeartbeats 1000000 in
theorem e122_25 (d : Nat) (l0 : Nat) (x1 x2 x3 : Value) (σ : xM) (y : Int32 × xM) (h : f122_25 l0 σ = some y) : Rn (d + 1) 122 25 [.ref l0, x1, x2, x3] [] σ (some (.int y.1), y.2) := by
  unfold f122_25 at h
  refine rn_steps 1 26 [.ref l0, x1, x2, x3] [.int 0] rfl ?_
  exact e122_26 d _ _ _ _ _ _ _ h
/-- LastAsked.drawsOr(II)I -/
noncomputable def f122 (l0 : Nat) (l1 : Int32) (l2 : Int32) (σ : xM) : Option (Int32 × xM) :=
  if l1 < 0 then
  f122_25 l0 σ
  else
  if 65536 < l1 then
  f122_25 l0 σ
  else
  if l2 < 0 then
  f122_25 l0 σ
  else
  if 60 < l2 then
  f122_25 l0 σ
  else
  f122_26 l0 1 σ
set_option maxRecDepth 20000 in
set_option maxHeartbeats 1000000 in
theorem e122 (d : Nat) {l0 : Nat} {l1 : Int32} {l2 : Int32} {σ : xM} {y : Int32 × xM} (h : f122 l0 l1 l2 σ = some y) : Rn (d + 1) 122 0 [.ref l0, .int l1, .int l2, .retAddr 0] [] σ (some (.int y.1), y.2) := by
  unfold f122 at h
  refine rn_steps 1 1 [.ref l0, .int l1, .int l2, .retAddr 0] [.int l1] rfl ?_
  refine rn_br (c := l1 < 0) rfl rfl decide_eq_true_iff (fun hb => ?_) (fun hb => ?_)
  · rw [if_pos hb] at h
    refine rn_steps 0 25 [.ref l0, .int l1, .int l2, .retAddr 0] [] rfl ?_
    exact e122_25 d _ _ _ _ _ _ h
  · rw [if_neg hb] at h
    refine rn_steps 2 8 [.ref l0, .int l1, .int l2, .retAddr 0] [.int 65536, .int l1] rfl ?_
    refine rn_br (c := 65536 < l1) rfl rfl decide_eq_true_iff (fun hb => ?_) (fun hb => ?_)
    · rw [if_pos hb] at h
      refine rn_steps 0 25 [.ref l0, .int l1, .int l2, .retAddr 0] [] rfl ?_
      exact e122_25 d _ _ _ _ _ _ h
    · rw [if_neg hb] at h
      refine rn_steps 1 12 [.ref l0, .int l1, .int l2, .retAddr 0] [.int l2] rfl ?_
      refine rn_br (c := l2 < 0) rfl rfl decide_eq_true_iff (fun hb => ?_) (fun hb => ?_)
      · rw [if_pos hb] at h
        refine rn_steps 0 25 [.ref l0, .int l1, .int l2, .retAddr 0] [] rfl ?_
        exact e122_25 d _ _ _ _ _ _ h
      · rw [if_neg hb] at h
        refine rn_steps 2 18 [.ref l0, .int l1, .int l2, .retAddr 0] [.int 60, .int l2] rfl ?_
        refine rn_br (c := 60 < l2) rfl rfl decide_eq_true_iff (fun hb => ?_) (fun hb => ?_)
        · rw [if_pos hb] at h
          refine rn_steps 0 25 [.ref l0, .int l1, .int l2, .retAddr 0] [] rfl ?_
          exact e122_25 d _ _ _ _ _ _ h
        · rw [if_neg hb] at h
          refine rn_steps 2 26 [.ref l0, .int l1, .int l2, .retAddr 0] [.int 1] rfl ?_
          exact e122_26 d _ _ _ _ _ _ _ h
noncomputable def f145_49 (l0 : Nat) (l1 : Nat) (l2 : Int32) (σ : xM) : Option (Int32 × xM) :=
  (gR σ l0 7 5).bind fun r1 =>
  (gR σ l1 4 6).bind fun r2 =>
  (gI σ l1 4 4).bind fun v3 =>
  (cO σ r1 6).bind fun u8 =>
  (f57 r1 r2 v3 σ).bind fun y4 =>
  (gR y4 l0 7 5).bind fun r5 =>
  (cO y4 l1 4).bind fun u7 =>
  (f51 l1 l2 r5 y4).bind fun y6 =>
  some (l2, y6)
set_option maxRecDepth 20000 in
set_option maxHeartbeats 1000000 in
theorem e145_49 (d : Nat) (l0 : Nat) (l1 : Nat) (l2 : Int32) (x3 : Value) (σ : xM) (y : Int32 × xM) (h : f145_49 l0 l1 l2 σ = some y) : Rn (d + 3) 145 49 [.ref l0, .ref l1, .int l2, x3] [] σ (some (.int y.1), y.2) := by
  unfold f145_49 at h
  refine rn_steps 1 50 [.ref l0, .ref l1, .int l2, x3] [.ref l0] rfl ?_
  obtain ⟨r1, hr1, h⟩ := Option.bind_eq_some_iff.mp h
  refine rn_gR (c := 7) (f := 5) rfl rfl ⟨⟨rfl, rfl⟩, rfl⟩ hr1 ?_
  refine rn_steps 1 54 [.ref l0, .ref l1, .int l2, x3] [.ref l1, .ref r1] rfl ?_
  obtain ⟨r2, hr2, h⟩ := Option.bind_eq_some_iff.mp h
  refine rn_gR (c := 4) (f := 6) rfl rfl ⟨⟨rfl, rfl⟩, rfl⟩ hr2 ?_
  refine rn_steps 1 58 [.ref l0, .ref l1, .int l2, x3] [.ref l1, .ref r2, .ref r1] rfl ?_
  obtain ⟨v3, hv3, h⟩ := Option.bind_eq_some_iff.mp h
  refine rn_gI (c := 4) (f := 4) rfl rfl ⟨⟨rfl, rfl⟩, Or.inl rfl⟩ hv3 ?_
  refine rn_steps 0 61 [.ref l0, .ref l1, .int l2, x3] [.int v3, .ref r2, .ref r1] rfl ?_
  obtain ⟨u8, hu8, h⟩ := Option.bind_eq_some_iff.mp h
  obtain ⟨y4, hy4, h⟩ := Option.bind_eq_some_iff.mp h
  refine rn_callV [.ref r2, .int v3] rfl rfl ⟨rfl, rfl⟩ hu8 rfl rfl (e57 d hy4) ?_
  refine rn_steps 3 67 [.ref l0, .ref l1, .int l2, x3] [.ref l0, .int l2, .ref l1] rfl ?_
  obtain ⟨r5, hr5, h⟩ := Option.bind_eq_some_iff.mp h
  refine rn_gR (c := 7) (f := 5) rfl rfl ⟨⟨rfl, rfl⟩, rfl⟩ hr5 ?_
  refine rn_steps 0 70 [.ref l0, .ref l1, .int l2, x3] [.ref r5, .int l2, .ref l1] rfl ?_
  obtain ⟨u7, hu7, h⟩ := Option.bind_eq_some_iff.mp h
  obtain ⟨y6, hy6, h⟩ := Option.bind_eq_some_iff.mp h
  refine rn_callV [.int l2, .ref r5] rfl rfl ⟨rfl, rfl⟩ hu7 rfl rfl (e51 d hy6) ?_
  refine rn_steps 1 74 [.ref l0, .ref l1, .int l2, x3] [.int l2] rfl ?_
  cases h
  exact rn_ret rfl rfl rfl
noncomputable def f145_43 (K4 : Nat → Nat → Int32 → Int32 → xM → Option (Int32 × xM)) (l0 : Nat) (l1 : Nat) (l2 : Int32) (l3 : Int32) (σ : xM) : Option (Int32 × xM) :=
  K4 l0 l1 l2 (l3 + 1) σ
set_option maxRecDepth 20000 in
set_option maxHeartbeats 1000000 in
theorem e145_43 (d : Nat) (K4 : Nat → Nat → Int32 → Int32 → xM → Option (Int32 × xM)) (hK4 : ∀ (l0 : Nat) (l1 : Nat) (l2 : Int32) (l3 : Int32) (σ : xM) (y : Int32 × xM), K4 l0 l1 l2 l3 σ = some y → Rn (d + 3) 145 4 [.ref l0, .ref l1, .int l2, .int l3] [] σ (some (.int y.1), y.2)) (l0 : Nat) (l1 : Nat) (l2 : Int32) (l3 : Int32) (σ : xM) (y : Int32 × xM) (h : f145_43 K4 l0 l1 l2 l3 σ = some y) : Rn (d + 3) 145 43 [.ref l0, .ref l1, .int l2, .int l3] [] σ (some (.int y.1), y.2) := by
  unfold f145_43 at h
  refine rn_steps 2 4 [.ref l0, .ref l1, .int l2, .int (l3 + 1)] [] rfl ?_
  exact hK4 _ _ _ _ _ _ h
noncomputable def f145_4 : Nat → Nat → Nat → Int32 → Int32 → xM → Option (Int32 × xM)
  | 0, _, _, _, _, _ => none
  | n + 1, l0, l1, l2, l3, σ =>
    if 6 ≤ l3 then
    f145_49 l0 l1 l2 σ
    else
    (cO σ l1 4).bind fun u8 =>
    (f48 l1 l3 σ).bind fun y1 =>
    if y1.1 = 0 then
    f145_43 (f145_4 n) l0 l1 l2 l3 y1.2
    else
    (cO y1.2 l1 4).bind fun u7 =>
    (f50 l1 y1.2).bind fun y2 =>
    (rI y2.1 100).bind fun v3 =>
    (gR y2.2 l0 7 1).bind fun r4 =>
    (gR y2.2 r4 0 9).bind fun r5 =>
    (aI y2.2 r5 l3).bind fun v6 =>
    if v6 ≤ v3 then
    f145_43 (f145_4 n) l0 l1 l2 l3 y2.2
    else
    f145_43 (f145_4 n) l0 l1 (l2 ||| (1 <<< (l3 &&& 31))) l3 y2.2
set_option maxRecDepth 20000 in
set_option maxHeartbeats 1000000 in
theorem e145_4 (d : Nat) : ∀ (n : Nat) (l0 : Nat) (l1 : Nat) (l2 : Int32) (l3 : Int32) (σ : xM) (y : Int32 × xM), f145_4 n l0 l1 l2 l3 σ = some y → Rn (d + 3) 145 4 [.ref l0, .ref l1, .int l2, .int l3] [] σ (some (.int y.1), y.2) := by
  intro n
  induction n with
  | zero => intro l0 l1 l2 l3 σ y h; cases h
  | succ n ih =>
    intro l0 l1 l2 l3 σ y h
    unfold f145_4 at h
    refine rn_steps 2 7 [.ref l0, .ref l1, .int l2, .int l3] [.int 6, .int l3] rfl ?_
    refine rn_br (c := 6 ≤ l3) rfl rfl decide_eq_true_iff (fun hb => ?_) (fun hb => ?_)
    · rw [if_pos hb] at h
      refine rn_steps 0 49 [.ref l0, .ref l1, .int l2, .int l3] [] rfl ?_
      exact e145_49 d _ _ _ _ _ _ h
    · rw [if_neg hb] at h
      refine rn_steps 2 12 [.ref l0, .ref l1, .int l2, .int l3] [.int l3, .ref l1] rfl ?_
      obtain ⟨u8, hu8, h⟩ := Option.bind_eq_some_iff.mp h
      obtain ⟨y1, hy1, h⟩ := Option.bind_eq_some_iff.mp h
      refine rn_callV [.int l3] rfl rfl ⟨rfl, rfl⟩ hu8 rfl rfl (e48 (d + 1) hy1) ?_
      refine rn_steps 0 15 [.ref l0, .ref l1, .int l2, .int l3] [.int y1.1] rfl ?_
      refine rn_br (c := y1.1 = 0) rfl rfl decide_eq_true_iff (fun hb => ?_) (fun hb => ?_)
      · rw [if_pos hb] at h
        refine rn_steps 0 43 [.ref l0, .ref l1, .int l2, .int l3] [] rfl ?_
        exact e145_43 d _ ih _ _ _ _ _ _ h
      · rw [if_neg hb] at h
        refine rn_steps 1 19 [.ref l0, .ref l1, .int l2, .int l3] [.ref l1] rfl ?_
        obtain ⟨u7, hu7, h⟩ := Option.bind_eq_some_iff.mp h
        obtain ⟨y2, hy2, h⟩ := Option.bind_eq_some_iff.mp h
        refine rn_callV [] rfl rfl ⟨rfl, rfl⟩ hu7 rfl rfl (e50 (d + 2) hy2) ?_
        refine rn_steps 1 24 [.ref l0, .ref l1, .int l2, .int l3] [.int 100, .int y2.1] rfl ?_
        obtain ⟨v3, hv3, h⟩ := Option.bind_eq_some_iff.mp h
        refine rn_rI rfl hv3 ?_
        refine rn_steps 1 26 [.ref l0, .ref l1, .int l2, .int l3] [.ref l0, .int v3] rfl ?_
        obtain ⟨r4, hr4, h⟩ := Option.bind_eq_some_iff.mp h
        refine rn_gR (c := 7) (f := 1) rfl rfl ⟨⟨rfl, rfl⟩, rfl⟩ hr4 ?_
        refine rn_steps 0 29 [.ref l0, .ref l1, .int l2, .int l3] [.ref r4, .int v3] rfl ?_
        obtain ⟨r5, hr5, h⟩ := Option.bind_eq_some_iff.mp h
        refine rn_gR (c := 0) (f := 9) rfl rfl ⟨⟨rfl, rfl⟩, rfl⟩ hr5 ?_
        refine rn_steps 1 33 [.ref l0, .ref l1, .int l2, .int l3] [.int l3, .ref r5, .int v3] rfl ?_
        obtain ⟨v6, hv6, h⟩ := Option.bind_eq_some_iff.mp h
        refine rn_aI rfl hv6 ?_
        refine rn_steps 0 34 [.ref l0, .ref l1, .int l2, .int l3] [.int v6, .int v3] rfl ?_
        refine rn_br (c := v6 ≤ v3) rfl rfl decide_eq_true_iff (fun hb => ?_) (fun hb => ?_)
        · rw [if_pos hb] at h
          refine rn_steps 0 43 [.ref l0, .ref l1, .int l2, .int l3] [] rfl ?_
          exact e145_43 d _ ih _ _ _ _ _ _ h
        · rw [if_neg hb] at h
          refine rn_steps 6 43 [.ref l0, .ref l1, .int (l2 ||| (1 <<< (l3 &&& 31))), .int l3] [] rfl ?_
          exact e145_43 d _ ih _ _ _ _ _ _ h
/-- LastAsked.passNight(LLastAsked$State;)I -/
noncomputable def f145 (l0 : Nat) (l1 : Nat) (σ : xM) : Option (Int32 × xM) :=
  f145_4 1100 l0 l1 0 0 σ
set_option maxRecDepth 20000 in
set_option maxHeartbeats 1000000 in
theorem e145 (d : Nat) {l0 : Nat} {l1 : Nat} {σ : xM} {y : Int32 × xM} (h : f145 l0 l1 σ = some y) : Rn (d + 3) 145 0 [.ref l0, .ref l1, .retAddr 0, .retAddr 0] [] σ (some (.int y.1), y.2) := by
  unfold f145 at h
  refine rn_steps 4 4 [.ref l0, .ref l1, .int 0, .int 0] [] rfl ?_
  exact e145_4 d 1100 _ _ _ _ _ _ h
noncomputable def f144_41 (σ : xM) : Option xM :=
  some σ
set_option maxRecDepth 20000 in
set_option maxHeartbeats 1000000 in
theorem e144_41 (d : Nat) (x0 x1 x2 x3 : Value) (σ : xM) (y : xM) (h : f144_41 σ = some y) : Rn (d + 4) 144 41 [x0, x1, x2, x3] [] σ (none, y) := by
  unfold f144_41 at h
  cases h
  exact rn_ret rfl rfl rfl
noncomputable def f144_21 : Nat → Nat → Int32 → Int32 → xM → Option xM
  | 0, _, _, _, _ => none
  | n + 1, l0, l2, l3, σ =>
    if l2 ≤ l3 then
    f144_41 σ
    else
    (gR σ l0 7 3).bind fun r1 =>
    (cO σ l0 7).bind fun u3 =>
    (f145 l0 r1 σ).bind fun y2 =>
    (f144_21 n) l0 l2 (l3 + 1) y2.2
set_option maxRecDepth 20000 in
set_option maxHeartbeats 1000000 in
theorem e144_21 (d : Nat) : ∀ (n : Nat) (l0 : Nat) (l2 : Int32) (l3 : Int32) (x1 : Value) (σ : xM) (y : xM), f144_21 n l0 l2 l3 σ = some y → Rn (d + 4) 144 21 [.ref l0, x1, .int l2, .int l3] [] σ (none, y) := by
  intro n
  induction n with
  | zero => intro l0 l2 l3 x1 σ y h; cases h
  | succ n ih =>
    intro l0 l2 l3 x1 σ y h
    unfold f144_21 at h
    refine rn_steps 2 23 [.ref l0, x1, .int l2, .int l3] [.int l2, .int l3] rfl ?_
    refine rn_br (c := l2 ≤ l3) rfl rfl decide_eq_true_iff (fun hb => ?_) (fun hb => ?_)
    · rw [if_pos hb] at h
      refine rn_steps 0 41 [.ref l0, x1, .int l2, .int l3] [] rfl ?_
      exact e144_41 d _ _ _ _ _ _ h
    · rw [if_neg hb] at h
      refine rn_steps 2 28 [.ref l0, x1, .int l2, .int l3] [.ref l0, .ref l0] rfl ?_
      obtain ⟨r1, hr1, h⟩ := Option.bind_eq_some_iff.mp h
      refine rn_gR (c := 7) (f := 3) rfl rfl ⟨⟨rfl, rfl⟩, rfl⟩ hr1 ?_
      refine rn_steps 0 31 [.ref l0, x1, .int l2, .int l3] [.ref r1, .ref l0] rfl ?_
      obtain ⟨u3, hu3, h⟩ := Option.bind_eq_some_iff.mp h
      obtain ⟨y2, hy2, h⟩ := Option.bind_eq_some_iff.mp h
      refine rn_callV [.ref r1] rfl rfl ⟨rfl, rfl⟩ hu3 rfl rfl (e145 d hy2) ?_
      refine rn_steps 3 21 [.ref l0, x1, .int l2, .int (l3 + 1)] [] rfl ?_
      exact ih _ _ _ _ _ _ h
/-- LastAsked.sleep(II)V -/
noncomputable def f144 (l0 : Nat) (l1 : Int32) (l2 : Int32) (σ : xM) : Option xM :=
  (gR σ l0 7 3).bind fun r1 =>
  (gR σ l0 7 2).bind fun r2 =>
  (cO σ r1 4).bind fun u6 =>
  (f47 r1 r2 σ).bind fun y3 =>
  (gR y3 l0 7 3).bind fun r4 =>
  (pI y3 r4 4 1 l1).bind fun σ5 =>
  f144_21 1100 l0 l2 0 σ5
set_option maxRecDepth 20000 in
set_option maxHeartbeats 1000000 in
theorem e144 (d : Nat) {l0 : Nat} {l1 : Int32} {l2 : Int32} {σ : xM} {y : xM} (h : f144 l0 l1 l2 σ = some y) : Rn (d + 4) 144 0 [.ref l0, .int l1, .int l2, .retAddr 0] [] σ (none, y) := by
  unfold f144 at h
  refine rn_steps 1 1 [.ref l0, .int l1, .int l2, .retAddr 0] [.ref l0] rfl ?_
  obtain ⟨r1, hr1, h⟩ := Option.bind_eq_some_iff.mp h
  refine rn_gR (c := 7) (f := 3) rfl rfl ⟨⟨rfl, rfl⟩, rfl⟩ hr1 ?_
  refine rn_steps 1 5 [.ref l0, .int l1, .int l2, .retAddr 0] [.ref l0, .ref r1] rfl ?_
  obtain ⟨r2, hr2, h⟩ := Option.bind_eq_some_iff.mp h
  refine rn_gR (c := 7) (f := 2) rfl rfl ⟨⟨rfl, rfl⟩, rfl⟩ hr2 ?_
  refine rn_steps 0 8 [.ref l0, .int l1, .int l2, .retAddr 0] [.ref r2, .ref r1] rfl ?_
  obtain ⟨u6, hu6, h⟩ := Option.bind_eq_some_iff.mp h
  obtain ⟨y3, hy3, h⟩ := Option.bind_eq_some_iff.mp h
  refine rn_callV [.ref r2] rfl rfl ⟨rfl, rfl⟩ hu6 rfl rfl (e47 (d + 2) hy3) ?_
  refine rn_steps 1 12 [.ref l0, .int l1, .int l2, .retAddr 0] [.ref l0] rfl ?_
  obtain ⟨r4, hr4, h⟩ := Option.bind_eq_some_iff.mp h
  refine rn_gR (c := 7) (f := 3) rfl rfl ⟨⟨rfl, rfl⟩, rfl⟩ hr4 ?_
  refine rn_steps 1 16 [.ref l0, .int l1, .int l2, .retAddr 0] [.int l1, .ref r4] rfl ?_
  obtain ⟨σ5, hσ5, h⟩ := Option.bind_eq_some_iff.mp h
  refine rn_pI (c := 4) (f := 1) rfl rfl ⟨⟨rfl, rfl⟩, rfl⟩ hσ5 ?_
  refine rn_steps 2 21 [.ref l0, .int l1, .int l2, .int 0] [] rfl ?_
  exact e144_21 d 1100 _ _ _ _ _ _ h
noncomputable def f101_19 (l0 : Nat) (l1 : Int32) (l2 : Int32) (l3 : Int32) (s0 : Int32) (s1 : Nat) (σ : xM) : Option (Int32 × xM) :=
  (cO σ s1 7).bind fun u7 =>
  (f114 s1 s0 σ).bind fun y1 =>
  if y1.1 = 0 then
  (cO y1.2 l0 7).bind fun u6 =>
  (f144 l0 l2 l3 y1.2).bind fun y2 =>
  (gR y2 l0 7 3).bind fun r3 =>
  (gR y2 r3 4 5).bind fun r4 =>
  (aI y2 r4 l1).bind fun v5 =>
  some (v5, y2)
  else
  some ((-1), y1.2)
set_option maxRecDepth 20000 in
set_option maxHeartbeats 1000000 in
theorem e101_19 (d : Nat) (l0 : Nat) (l1 : Int32) (l2 : Int32) (l3 : Int32) (s0 : Int32) (s1 : Nat) (σ : xM) (y : Int32 × xM) (h : f101_19 l0 l1 l2 l3 s0 s1 σ = some y) : Rn (d + 5) 101 19 [.ref l0, .int l1, .int l2, .int l3] [.int s0, .ref s1] σ (some (.int y.1), y.2) := by
  unfold f101_19 at h
  obtain ⟨u7, hu7, h⟩ := Option.bind_eq_some_iff.mp h
  obtain ⟨y1, hy1, h⟩ := Option.bind_eq_some_iff.mp h
  refine rn_callV [.int s0] rfl rfl ⟨rfl, rfl⟩ hu7 rfl rfl (e114 (d + 4) hy1) ?_
  refine rn_steps 0 22 [.ref l0, .int l1, .int l2, .int l3] [.int y1.1] rfl ?_
  refine rn_br (c := y1.1 = 0) rfl rfl decide_eq_true_iff (fun hb => ?_) (fun hb => ?_)
  · rw [if_pos hb] at h
    refine rn_steps 3 30 [.ref l0, .int l1, .int l2, .int l3] [.int l3, .int l2, .ref l0] rfl ?_
    obtain ⟨u6, hu6, h⟩ := Option.bind_eq_some_iff.mp h
    obtain ⟨y2, hy2, h⟩ := Option.bind_eq_some_iff.mp h
    refine rn_callV [.int l2, .int l3] rfl rfl ⟨rfl, rfl⟩ hu6 rfl rfl (e144 d hy2) ?_
    refine rn_steps 1 34 [.ref l0, .int l1, .int l2, .int l3] [.ref l0] rfl ?_
    obtain ⟨r3, hr3, h⟩ := Option.bind_eq_some_iff.mp h
    refine rn_gR (c := 7) (f := 3) rfl rfl ⟨⟨rfl, rfl⟩, rfl⟩ hr3 ?_
    refine rn_steps 0 37 [.ref l0, .int l1, .int l2, .int l3] [.ref r3] rfl ?_
    obtain ⟨r4, hr4, h⟩ := Option.bind_eq_some_iff.mp h
    refine rn_gR (c := 4) (f := 5) rfl rfl ⟨⟨rfl, rfl⟩, rfl⟩ hr4 ?_
    refine rn_steps 1 41 [.ref l0, .int l1, .int l2, .int l3] [.int l1, .ref r4] rfl ?_
    obtain ⟨v5, hv5, h⟩ := Option.bind_eq_some_iff.mp h
    refine rn_aI rfl hv5 ?_
    refine rn_steps 0 42 [.ref l0, .int l1, .int l2, .int l3] [.int v5] rfl ?_
    cases h
    exact rn_ret rfl rfl rfl
  · rw [if_neg hb] at h
    refine rn_steps 1 26 [.ref l0, .int l1, .int l2, .int l3] [.int (-1)] rfl ?_
    cases h
    exact rn_ret rfl rfl rfl
/-- LastAsked.nights(III)I -/
noncomputable def f101 (l0 : Nat) (l1 : Int32) (l2 : Int32) (l3 : Int32) (σ : xM) : Option (Int32 × xM) :=
  (cO σ l0 7).bind fun u4 =>
  (f116 l0 l1 σ).bind fun y1 =>
  if y1.1 = 0 then
  f101_19 l0 l1 l2 l3 1 l0 y1.2
  else
  (cO y1.2 l0 7).bind fun u3 =>
  (f122 l0 l2 l3 y1.2).bind fun y2 =>
  f101_19 l0 l1 l2 l3 y2.1 l0 y2.2
set_option maxRecDepth 20000 in
set_option maxHeartbeats 1000000 in
theorem e101 (d : Nat) {l0 : Nat} {l1 : Int32} {l2 : Int32} {l3 : Int32} {σ : xM} {y : Int32 × xM} (h : f101 l0 l1 l2 l3 σ = some y) : Rn (d + 5) 101 0 [.ref l0, .int l1, .int l2, .int l3] [] σ (some (.int y.1), y.2) := by
  unfold f101 at h
  refine rn_steps 3 3 [.ref l0, .int l1, .int l2, .int l3] [.int l1, .ref l0, .ref l0] rfl ?_
  obtain ⟨u4, hu4, h⟩ := Option.bind_eq_some_iff.mp h
  obtain ⟨y1, hy1, h⟩ := Option.bind_eq_some_iff.mp h
  refine rn_callV [.int l1] rfl rfl ⟨rfl, rfl⟩ hu4 rfl rfl (e116 (d + 4) hy1) ?_
  refine rn_steps 0 6 [.ref l0, .int l1, .int l2, .int l3] [.int y1.1, .ref l0] rfl ?_
  refine rn_br (c := y1.1 = 0) rfl rfl decide_eq_true_iff (fun hb => ?_) (fun hb => ?_)
  · rw [if_pos hb] at h
    refine rn_steps 1 19 [.ref l0, .int l1, .int l2, .int l3] [.int 1, .ref l0] rfl ?_
    exact e101_19 d _ _ _ _ _ _ _ _ h
  · rw [if_neg hb] at h
    refine rn_steps 3 12 [.ref l0, .int l1, .int l2, .int l3] [.int l3, .int l2, .ref l0, .ref l0] rfl ?_
    obtain ⟨u3, hu3, h⟩ := Option.bind_eq_some_iff.mp h
    obtain ⟨y2, hy2, h⟩ := Option.bind_eq_some_iff.mp h
    refine rn_callV [.int l2, .int l3] rfl rfl ⟨rfl, rfl⟩ hu3 rfl rfl (e122 (d + 3) hy2) ?_
    refine rn_steps 1 19 [.ref l0, .int l1, .int l2, .int l3] [.int y2.1, .ref l0] rfl ?_
    exact e101_19 d _ _ _ _ _ _ _ _ h
/-- LastAsked.lives(II)I -/
noncomputable def f102 (l0 : Nat) (l1 : Int32) (l2 : Int32) (σ : xM) : Option (Int32 × xM) :=
  (cO σ l0 7).bind fun u8 =>
  (f122 l0 l1 l2 σ).bind fun y1 =>
  (cO y1.2 l0 7).bind fun u7 =>
  (f114 l0 y1.1 y1.2).bind fun y2 =>
  if y2.1 = 0 then
  (cO y2.2 l0 7).bind fun u6 =>
  (f144 l0 l1 l2 y2.2).bind fun y3 =>
  (gR y3 l0 7 3).bind fun r4 =>
  (gI y3 r4 4 4).bind fun v5 =>
  some (v5, y3)
  else
  some ((-1), y2.2)
set_option maxRecDepth 20000 in
set_option maxHeartbeats 1000000 in
theorem e102 (d : Nat) {l0 : Nat} {l1 : Int32} {l2 : Int32} {σ : xM} {y : Int32 × xM} (h : f102 l0 l1 l2 σ = some y) : Rn (d + 5) 102 0 [.ref l0, .int l1, .int l2] [] σ (some (.int y.1), y.2) := by
  unfold f102 at h
  refine rn_steps 4 4 [.ref l0, .int l1, .int l2] [.int l2, .int l1, .ref l0, .ref l0] rfl ?_
  obtain ⟨u8, hu8, h⟩ := Option.bind_eq_some_iff.mp h
  obtain ⟨y1, hy1, h⟩ := Option.bind_eq_some_iff.mp h
  refine rn_callV [.int l1, .int l2] rfl rfl ⟨rfl, rfl⟩ hu8 rfl rfl (e122 (d + 3) hy1) ?_
  refine rn_steps 0 7 [.ref l0, .int l1, .int l2] [.int y1.1, .ref l0] rfl ?_
  obtain ⟨u7, hu7, h⟩ := Option.bind_eq_some_iff.mp h
  obtain ⟨y2, hy2, h⟩ := Option.bind_eq_some_iff.mp h
  refine rn_callV [.int y1.1] rfl rfl ⟨rfl, rfl⟩ hu7 rfl rfl (e114 (d + 4) hy2) ?_
  refine rn_steps 0 10 [.ref l0, .int l1, .int l2] [.int y2.1] rfl ?_
  refine rn_br (c := y2.1 = 0) rfl rfl decide_eq_true_iff (fun hb => ?_) (fun hb => ?_)
  · rw [if_pos hb] at h
    refine rn_steps 3 18 [.ref l0, .int l1, .int l2] [.int l2, .int l1, .ref l0] rfl ?_
    obtain ⟨u6, hu6, h⟩ := Option.bind_eq_some_iff.mp h
    obtain ⟨y3, hy3, h⟩ := Option.bind_eq_some_iff.mp h
    refine rn_callV [.int l1, .int l2] rfl rfl ⟨rfl, rfl⟩ hu6 rfl rfl (e144 d hy3) ?_
    refine rn_steps 1 22 [.ref l0, .int l1, .int l2] [.ref l0] rfl ?_
    obtain ⟨r4, hr4, h⟩ := Option.bind_eq_some_iff.mp h
    refine rn_gR (c := 7) (f := 3) rfl rfl ⟨⟨rfl, rfl⟩, rfl⟩ hr4 ?_
    refine rn_steps 0 25 [.ref l0, .int l1, .int l2] [.ref r4] rfl ?_
    obtain ⟨v5, hv5, h⟩ := Option.bind_eq_some_iff.mp h
    refine rn_gI (c := 4) (f := 4) rfl rfl ⟨⟨rfl, rfl⟩, Or.inl rfl⟩ hv5 ?_
    refine rn_steps 0 28 [.ref l0, .int l1, .int l2] [.int v5] rfl ?_
    cases h
    exact rn_ret rfl rfl rfl
  · rw [if_neg hb] at h
    refine rn_steps 1 14 [.ref l0, .int l1, .int l2] [.int (-1)] rfl ?_
    cases h
    exact rn_ret rfl rfl rfl
noncomputable def f103_75 (σ : xM) : Option (Int32 × xM) :=
  some ((-2), σ)
set_option maxRecDepth 20000 in
set_option maxHeartbeats 1000000 in
theorem e103_75 (d : Nat) (x0 x1 x2 x3 : Value) (σ : xM) (y : Int32 × xM) (h : f103_75 σ = some y) : Rn (d + 4) 103 75 [x0, x1, x2, x3] [] σ (some (.int y.1), y.2) := by
  unfold f103_75 at h
  refine rn_steps 1 77 [x0, x1, x2, x3] [.int (-2)] rfl ?_
  cases h
  exact rn_ret rfl rfl rfl
noncomputable def f103_36 : Nat → Nat → Int32 → Int32 → xM → Option (Int32 × xM)
  | 0, _, _, _, _ => none
  | n + 1, l0, l2, l3, σ =>
    if l2 < l3 then
    f103_75 σ
    else
    (gR σ l0 7 3).bind fun r1 =>
    (cO σ l0 7).bind fun u7 =>
    (f145 l0 r1 σ).bind fun y2 =>
    (gR y2.2 l0 7 3).bind fun r3 =>
    (gI y2.2 r3 4 3).bind fun v4 =>
    (gR y2.2 l0 7 2).bind fun r5 =>
    (gI y2.2 r5 4 3).bind fun v6 =>
    if v4 ≤ v6 then
    (f103_36 n) l0 l2 (l3 + 1) y2.2
    else
    some (l3, y2.2)
set_option maxRecDepth 20000 in
set_option maxHeartbeats 1000000 in
theorem e103_36 (d : Nat) : ∀ (n : Nat) (l0 : Nat) (l2 : Int32) (l3 : Int32) (x1 : Value) (σ : xM) (y : Int32 × xM), f103_36 n l0 l2 l3 σ = some y → Rn (d + 4) 103 36 [.ref l0, x1, .int l2, .int l3] [] σ (some (.int y.1), y.2) := by
  intro n
  induction n with
  | zero => intro l0 l2 l3 x1 σ y h; cases h
  | succ n ih =>
    intro l0 l2 l3 x1 σ y h
    unfold f103_36 at h
    refine rn_steps 2 38 [.ref l0, x1, .int l2, .int l3] [.int l2, .int l3] rfl ?_
    refine rn_br (c := l2 < l3) rfl rfl decide_eq_true_iff (fun hb => ?_) (fun hb => ?_)
    · rw [if_pos hb] at h
      refine rn_steps 0 75 [.ref l0, x1, .int l2, .int l3] [] rfl ?_
      exact e103_75 d _ _ _ _ _ _ h
    · rw [if_neg hb] at h
      refine rn_steps 2 43 [.ref l0, x1, .int l2, .int l3] [.ref l0, .ref l0] rfl ?_
      obtain ⟨r1, hr1, h⟩ := Option.bind_eq_some_iff.mp h
      refine rn_gR (c := 7) (f := 3) rfl rfl ⟨⟨rfl, rfl⟩, rfl⟩ hr1 ?_
      refine rn_steps 0 46 [.ref l0, x1, .int l2, .int l3] [.ref r1, .ref l0] rfl ?_
      obtain ⟨u7, hu7, h⟩ := Option.bind_eq_some_iff.mp h
      obtain ⟨y2, hy2, h⟩ := Option.bind_eq_some_iff.mp h
      refine rn_callV [.ref r1] rfl rfl ⟨rfl, rfl⟩ hu7 rfl rfl (e145 d hy2) ?_
      refine rn_steps 2 51 [.ref l0, x1, .int l2, .int l3] [.ref l0] rfl ?_
      obtain ⟨r3, hr3, h⟩ := Option.bind_eq_some_iff.mp h
      refine rn_gR (c := 7) (f := 3) rfl rfl ⟨⟨rfl, rfl⟩, rfl⟩ hr3 ?_
      refine rn_steps 0 54 [.ref l0, x1, .int l2, .int l3] [.ref r3] rfl ?_
      obtain ⟨v4, hv4, h⟩ := Option.bind_eq_some_iff.mp h
      refine rn_gI (c := 4) (f := 3) rfl rfl ⟨⟨rfl, rfl⟩, Or.inl rfl⟩ hv4 ?_
      refine rn_steps 1 58 [.ref l0, x1, .int l2, .int l3] [.ref l0, .int v4] rfl ?_
      obtain ⟨r5, hr5, h⟩ := Option.bind_eq_some_iff.mp h
      refine rn_gR (c := 7) (f := 2) rfl rfl ⟨⟨rfl, rfl⟩, rfl⟩ hr5 ?_
      refine rn_steps 0 61 [.ref l0, x1, .int l2, .int l3] [.ref r5, .int v4] rfl ?_
      obtain ⟨v6, hv6, h⟩ := Option.bind_eq_some_iff.mp h
      refine rn_gI (c := 4) (f := 3) rfl rfl ⟨⟨rfl, rfl⟩, Or.inl rfl⟩ hv6 ?_
      refine rn_steps 0 64 [.ref l0, x1, .int l2, .int l3] [.int v6, .int v4] rfl ?_
      refine rn_br (c := v4 ≤ v6) rfl rfl decide_eq_true_iff (fun hb => ?_) (fun hb => ?_)
      · rw [if_pos hb] at h
        refine rn_steps 2 36 [.ref l0, x1, .int l2, .int (l3 + 1)] [] rfl ?_
        exact ih _ _ _ _ _ _ h
      · rw [if_neg hb] at h
        refine rn_steps 1 68 [.ref l0, x1, .int l2, .int l3] [.int l3] rfl ?_
        cases h
        exact rn_ret rfl rfl rfl
/-- LastAsked.firstCat(II)I -/
noncomputable def f103 (l0 : Nat) (l1 : Int32) (l2 : Int32) (σ : xM) : Option (Int32 × xM) :=
  (cO σ l0 7).bind fun u10 =>
  (f122 l0 l1 l2 σ).bind fun y1 =>
  (cO y1.2 l0 7).bind fun u9 =>
  (f114 l0 y1.1 y1.2).bind fun y2 =>
  if y2.1 = 0 then
  (gR y2.2 l0 7 3).bind fun r3 =>
  (gR y2.2 l0 7 2).bind fun r4 =>
  (cO y2.2 r3 4).bind fun u8 =>
  (f47 r3 r4 y2.2).bind fun y5 =>
  (gR y5 l0 7 3).bind fun r6 =>
  (pI y5 r6 4 1 l1).bind fun σ7 =>
  f103_36 1100 l0 l2 1 σ7
  else
  some ((-1), y2.2)
set_option maxRecDepth 20000 in
set_option maxHeartbeats 1000000 in
theorem e103 (d : Nat) {l0 : Nat} {l1 : Int32} {l2 : Int32} {σ : xM} {y : Int32 × xM} (h : f103 l0 l1 l2 σ = some y) : Rn (d + 4) 103 0 [.ref l0, .int l1, .int l2, .retAddr 0] [] σ (some (.int y.1), y.2) := by
  unfold f103 at h
  refine rn_steps 4 4 [.ref l0, .int l1, .int l2, .retAddr 0] [.int l2, .int l1, .ref l0, .ref l0] rfl ?_
  obtain ⟨u10, hu10, h⟩ := Option.bind_eq_some_iff.mp h
  obtain ⟨y1, hy1, h⟩ := Option.bind_eq_some_iff.mp h
  refine rn_callV [.int l1, .int l2] rfl rfl ⟨rfl, rfl⟩ hu10 rfl rfl (e122 (d + 2) hy1) ?_
  refine rn_steps 0 7 [.ref l0, .int l1, .int l2, .retAddr 0] [.int y1.1, .ref l0] rfl ?_
  obtain ⟨u9, hu9, h⟩ := Option.bind_eq_some_iff.mp h
  obtain ⟨y2, hy2, h⟩ := Option.bind_eq_some_iff.mp h
  refine rn_callV [.int y1.1] rfl rfl ⟨rfl, rfl⟩ hu9 rfl rfl (e114 (d + 3) hy2) ?_
  refine rn_steps 0 10 [.ref l0, .int l1, .int l2, .retAddr 0] [.int y2.1] rfl ?_
  refine rn_br (c := y2.1 = 0) rfl rfl decide_eq_true_iff (fun hb => ?_) (fun hb => ?_)
  · rw [if_pos hb] at h
    refine rn_steps 1 16 [.ref l0, .int l1, .int l2, .retAddr 0] [.ref l0] rfl ?_
    obtain ⟨r3, hr3, h⟩ := Option.bind_eq_some_iff.mp h
    refine rn_gR (c := 7) (f := 3) rfl rfl ⟨⟨rfl, rfl⟩, rfl⟩ hr3 ?_
    refine rn_steps 1 20 [.ref l0, .int l1, .int l2, .retAddr 0] [.ref l0, .ref r3] rfl ?_
    obtain ⟨r4, hr4, h⟩ := Option.bind_eq_some_iff.mp h
    refine rn_gR (c := 7) (f := 2) rfl rfl ⟨⟨rfl, rfl⟩, rfl⟩ hr4 ?_
    refine rn_steps 0 23 [.ref l0, .int l1, .int l2, .retAddr 0] [.ref r4, .ref r3] rfl ?_
    obtain ⟨u8, hu8, h⟩ := Option.bind_eq_some_iff.mp h
    obtain ⟨y5, hy5, h⟩ := Option.bind_eq_some_iff.mp h
    refine rn_callV [.ref r4] rfl rfl ⟨rfl, rfl⟩ hu8 rfl rfl (e47 (d + 2) hy5) ?_
    refine rn_steps 1 27 [.ref l0, .int l1, .int l2, .retAddr 0] [.ref l0] rfl ?_
    obtain ⟨r6, hr6, h⟩ := Option.bind_eq_some_iff.mp h
    refine rn_gR (c := 7) (f := 3) rfl rfl ⟨⟨rfl, rfl⟩, rfl⟩ hr6 ?_
    refine rn_steps 1 31 [.ref l0, .int l1, .int l2, .retAddr 0] [.int l1, .ref r6] rfl ?_
    obtain ⟨σ7, hσ7, h⟩ := Option.bind_eq_some_iff.mp h
    refine rn_pI (c := 4) (f := 1) rfl rfl ⟨⟨rfl, rfl⟩, rfl⟩ hσ7 ?_
    refine rn_steps 2 36 [.ref l0, .int l1, .int l2, .int 1] [] rfl ?_
    exact e103_36 d 1100 _ _ _ _ _ _ h
  · rw [if_neg hb] at h
    refine rn_steps 1 14 [.ref l0, .int l1, .int l2, .retAddr 0] [.int (-1)] rfl ?_
    cases h
    exact rn_ret rfl rfl rfl
noncomputable def f123_68 (s0 : Int32) (σ : xM) : Option (Int32 × xM) :=
  some (s0, σ)
set_option maxRecDepth 20000 in
set_option maxHeartbeats 1000000 in
theorem e123_68 (d : Nat) (s0 : Int32) (x0 x1 x2 : Value) (σ : xM) (y : Int32 × xM) (h : f123_68 s0 σ = some y) : Rn (d + 2) 123 68 [x0, x1, x2] [.int s0] σ (some (.int y.1), y.2) := by
  unfold f123_68 at h
  cases h
  exact rn_ret rfl rfl rfl
noncomputable def f123_33 (σ : xM) : Option (Int32 × xM) :=
  some (5, σ)
set_option maxRecDepth 20000 in
set_option maxHeartbeats 1000000 in
theorem e123_33 (d : Nat) (x0 x1 x2 : Value) (σ : xM) (y : Int32 × xM) (h : f123_33 σ = some y) : Rn (d + 2) 123 33 [x0, x1, x2] [] σ (some (.int y.1), y.2) := by
  unfold f123_33 at h
  refine rn_steps 1 34 [x0, x1, x2] [.int 5] rfl ?_
  cases h
  exact rn_ret rfl rfl rfl
/-- LastAsked.askTrouble(II)I -/
noncomputable def f123 (l0 : Nat) (l1 : Int32) (l2 : Int32) (σ : xM) : Option (Int32 × xM) :=
  (cO σ l0 7).bind fun u13 =>
  (f117 l0 l1 l2 σ).bind fun y1 =>
  if y1.1 = 0 then
  some (1, y1.2)
  else
  (gR y1.2 l0 7 2).bind fun r2 =>
  (cO y1.2 r2 4).bind fun u12 =>
  (f48 r2 l1 y1.2).bind fun y3 =>
  if y3.1 = 0 then
  f123_33 y3.2
  else
  (gR y3.2 l0 7 2).bind fun r4 =>
  (cO y3.2 r4 4).bind fun u11 =>
  (f48 r4 l2 y3.2).bind fun y5 =>
  if y5.1 = 0 then
  f123_33 y5.2
  else
  (gR y5.2 l0 7 1).bind fun r6 =>
  (cO y5.2 r6 0).bind fun u10 =>
  (f4 r6 l1 l2 y5.2).bind fun y7 =>
  if y7.1 = 0 then
  some (6, y7.2)
  else
  (gR y7.2 l0 7 2).bind fun r8 =>
  (gI y7.2 r8 4 0).bind fun v9 =>
  if v9 < 999 then
  f123_68 0 y7.2
  else
  f123_68 3 y7.2
set_option maxRecDepth 20000 in
set_option maxHeartbeats 1000000 in
theorem e123 (d : Nat) {l0 : Nat} {l1 : Int32} {l2 : Int32} {σ : xM} {y : Int32 × xM} (h : f123 l0 l1 l2 σ = some y) : Rn (d + 2) 123 0 [.ref l0, .int l1, .int l2] [] σ (some (.int y.1), y.2) := by
  unfold f123 at h
  refine rn_steps 3 3 [.ref l0, .int l1, .int l2] [.int l2, .int l1, .ref l0] rfl ?_
  obtain ⟨u13, hu13, h⟩ := Option.bind_eq_some_iff.mp h
  obtain ⟨y1, hy1, h⟩ := Option.bind_eq_some_iff.mp h
  refine rn_callV [.int l1, .int l2] rfl rfl ⟨rfl, rfl⟩ hu13 rfl rfl (e117 d hy1) ?_
  refine rn_steps 0 6 [.ref l0, .int l1, .int l2] [.int y1.1] rfl ?_
  refine rn_br (c := ¬ y1.1 = 0) rfl rfl decide_eq_true_iff (fun hb => ?_) (fun hb => ?_)
  · rw [if_neg hb] at h
    refine rn_steps 1 12 [.ref l0, .int l1, .int l2] [.ref l0] rfl ?_
    obtain ⟨r2, hr2, h⟩ := Option.bind_eq_some_iff.mp h
    refine rn_gR (c := 7) (f := 2) rfl rfl ⟨⟨rfl, rfl⟩, rfl⟩ hr2 ?_
    refine rn_steps 1 16 [.ref l0, .int l1, .int l2] [.int l1, .ref r2] rfl ?_
    obtain ⟨u12, hu12, h⟩ := Option.bind_eq_some_iff.mp h
    obtain ⟨y3, hy3, h⟩ := Option.bind_eq_some_iff.mp h
    refine rn_callV [.int l1] rfl rfl ⟨rfl, rfl⟩ hu12 rfl rfl (e48 d hy3) ?_
    refine rn_steps 0 19 [.ref l0, .int l1, .int l2] [.int y3.1] rfl ?_
    refine rn_br (c := y3.1 = 0) rfl rfl decide_eq_true_iff (fun hb => ?_) (fun hb => ?_)
    · rw [if_pos hb] at h
      refine rn_steps 0 33 [.ref l0, .int l1, .int l2] [] rfl ?_
      exact e123_33 d _ _ _ _ _ h
    · rw [if_neg hb] at h
      refine rn_steps 1 23 [.ref l0, .int l1, .int l2] [.ref l0] rfl ?_
      obtain ⟨r4, hr4, h⟩ := Option.bind_eq_some_iff.mp h
      refine rn_gR (c := 7) (f := 2) rfl rfl ⟨⟨rfl, rfl⟩, rfl⟩ hr4 ?_
      refine rn_steps 1 27 [.ref l0, .int l1, .int l2] [.int l2, .ref r4] rfl ?_
      obtain ⟨u11, hu11, h⟩ := Option.bind_eq_some_iff.mp h
      obtain ⟨y5, hy5, h⟩ := Option.bind_eq_some_iff.mp h
      refine rn_callV [.int l2] rfl rfl ⟨rfl, rfl⟩ hu11 rfl rfl (e48 d hy5) ?_
      refine rn_steps 0 30 [.ref l0, .int l1, .int l2] [.int y5.1] rfl ?_
      refine rn_br (c := ¬ y5.1 = 0) rfl rfl decide_eq_true_iff (fun hb => ?_) (fun hb => ?_)
      · rw [if_neg hb] at h
        refine rn_steps 1 36 [.ref l0, .int l1, .int l2] [.ref l0] rfl ?_
        obtain ⟨r6, hr6, h⟩ := Option.bind_eq_some_iff.mp h
        refine rn_gR (c := 7) (f := 1) rfl rfl ⟨⟨rfl, rfl⟩, rfl⟩ hr6 ?_
        refine rn_steps 2 41 [.ref l0, .int l1, .int l2] [.int l2, .int l1, .ref r6] rfl ?_
        obtain ⟨u10, hu10, h⟩ := Option.bind_eq_some_iff.mp h
        obtain ⟨y7, hy7, h⟩ := Option.bind_eq_some_iff.mp h
        refine rn_callV [.int l1, .int l2] rfl rfl ⟨rfl, rfl⟩ hu10 rfl rfl (e4 d hy7) ?_
        refine rn_steps 0 44 [.ref l0, .int l1, .int l2] [.int y7.1] rfl ?_
        refine rn_br (c := ¬ y7.1 = 0) rfl rfl decide_eq_true_iff (fun hb => ?_) (fun hb => ?_)
        · rw [if_neg hb] at h
          refine rn_steps 1 51 [.ref l0, .int l1, .int l2] [.ref l0] rfl ?_
          obtain ⟨r8, hr8, h⟩ := Option.bind_eq_some_iff.mp h
          refine rn_gR (c := 7) (f := 2) rfl rfl ⟨⟨rfl, rfl⟩, rfl⟩ hr8 ?_
          refine rn_steps 0 54 [.ref l0, .int l1, .int l2] [.ref r8] rfl ?_
          obtain ⟨v9, hv9, h⟩ := Option.bind_eq_some_iff.mp h
          refine rn_gI (c := 4) (f := 0) rfl rfl ⟨⟨rfl, rfl⟩, Or.inl rfl⟩ hv9 ?_
          refine rn_steps 1 60 [.ref l0, .int l1, .int l2] [.int 999, .int v9] rfl ?_
          refine rn_br (c := v9 < 999) rfl rfl decide_eq_true_iff (fun hb => ?_) (fun hb => ?_)
          · rw [if_pos hb] at h
            refine rn_steps 1 68 [.ref l0, .int l1, .int l2] [.int 0] rfl ?_
            exact e123_68 d _ _ _ _ _ _ h
          · rw [if_neg hb] at h
            refine rn_steps 2 68 [.ref l0, .int l1, .int l2] [.int 3] rfl ?_
            exact e123_68 d _ _ _ _ _ _ h
        · rw [if_pos (Decidable.not_not.mp hb)] at h
          refine rn_steps 1 49 [.ref l0, .int l1, .int l2] [.int 6] rfl ?_
          cases h
          exact rn_ret rfl rfl rfl
      · rw [if_pos (Decidable.not_not.mp hb)] at h
        refine rn_steps 0 33 [.ref l0, .int l1, .int l2] [] rfl ?_
        exact e123_33 d _ _ _ _ _ h
  · rw [if_pos (Decidable.not_not.mp hb)] at h
    refine rn_steps 1 10 [.ref l0, .int l1, .int l2] [.int 1] rfl ?_
    cases h
    exact rn_ret rfl rfl rfl
/-- LastAsked.ask(II)I -/
noncomputable def f104 (l0 : Nat) (l1 : Int32) (l2 : Int32) (σ : xM) : Option (Int32 × xM) :=
  (cO σ l0 7).bind fun u13 =>
  (f123 l0 l1 l2 σ).bind fun y1 =>
  (cO y1.2 l0 7).bind fun u12 =>
  (f114 l0 y1.1 y1.2).bind fun y2 =>
  if y2.1 = 0 then
  (gR y2.2 l0 7 4).bind fun r3 =>
  (gR y2.2 l0 7 2).bind fun r4 =>
  (cO y2.2 r3 2).bind fun u11 =>
  (f18 r3 r4 y2.2).bind fun y5 =>
  (gR y5 l0 7 2).bind fun r6 =>
  (gR y5 l0 7 1).bind fun r7 =>
  (gI y5 r7 0 1).bind fun v8 =>
  (cO y5 r6 4).bind fun u10 =>
  (f49 r6 l1 l2 v8 y5).bind fun y9 =>
  some (y9.1, y9.2)
  else
  some ((-1), y2.2)
set_option maxRecDepth 20000 in
set_option maxHeartbeats 1000000 in
theorem e104 (d : Nat) {l0 : Nat} {l1 : Int32} {l2 : Int32} {σ : xM} {y : Int32 × xM} (h : f104 l0 l1 l2 σ = some y) : Rn (d + 3) 104 0 [.ref l0, .int l1, .int l2] [] σ (some (.int y.1), y.2) := by
  unfold f104 at h
  refine rn_steps 4 4 [.ref l0, .int l1, .int l2] [.int l2, .int l1, .ref l0, .ref l0] rfl ?_
  obtain ⟨u13, hu13, h⟩ := Option.bind_eq_some_iff.mp h
  obtain ⟨y1, hy1, h⟩ := Option.bind_eq_some_iff.mp h
  refine rn_callV [.int l1, .int l2] rfl rfl ⟨rfl, rfl⟩ hu13 rfl rfl (e123 d hy1) ?_
  refine rn_steps 0 7 [.ref l0, .int l1, .int l2] [.int y1.1, .ref l0] rfl ?_
  obtain ⟨u12, hu12, h⟩ := Option.bind_eq_some_iff.mp h
  obtain ⟨y2, hy2, h⟩ := Option.bind_eq_some_iff.mp h
  refine rn_callV [.int y1.1] rfl rfl ⟨rfl, rfl⟩ hu12 rfl rfl (e114 (d + 2) hy2) ?_
  refine rn_steps 0 10 [.ref l0, .int l1, .int l2] [.int y2.1] rfl ?_
  refine rn_br (c := y2.1 = 0) rfl rfl decide_eq_true_iff (fun hb => ?_) (fun hb => ?_)
  · rw [if_pos hb] at h
    refine rn_steps 1 16 [.ref l0, .int l1, .int l2] [.ref l0] rfl ?_
    obtain ⟨r3, hr3, h⟩ := Option.bind_eq_some_iff.mp h
    refine rn_gR (c := 7) (f := 4) rfl rfl ⟨⟨rfl, rfl⟩, rfl⟩ hr3 ?_
    refine rn_steps 1 20 [.ref l0, .int l1, .int l2] [.ref l0, .ref r3] rfl ?_
    obtain ⟨r4, hr4, h⟩ := Option.bind_eq_some_iff.mp h
    refine rn_gR (c := 7) (f := 2) rfl rfl ⟨⟨rfl, rfl⟩, rfl⟩ hr4 ?_
    refine rn_steps 0 23 [.ref l0, .int l1, .int l2] [.ref r4, .ref r3] rfl ?_
    obtain ⟨u11, hu11, h⟩ := Option.bind_eq_some_iff.mp h
    obtain ⟨y5, hy5, h⟩ := Option.bind_eq_some_iff.mp h
    refine rn_callV [.ref r4] rfl rfl ⟨rfl, rfl⟩ hu11 rfl rfl (e18 d hy5) ?_
    refine rn_steps 1 27 [.ref l0, .int l1, .int l2] [.ref l0] rfl ?_
    obtain ⟨r6, hr6, h⟩ := Option.bind_eq_some_iff.mp h
    refine rn_gR (c := 7) (f := 2) rfl rfl ⟨⟨rfl, rfl⟩, rfl⟩ hr6 ?_
    refine rn_steps 3 33 [.ref l0, .int l1, .int l2] [.ref l0, .int l2, .int l1, .ref r6] rfl ?_
    obtain ⟨r7, hr7, h⟩ := Option.bind_eq_some_iff.mp h
    refine rn_gR (c := 7) (f := 1) rfl rfl ⟨⟨rfl, rfl⟩, rfl⟩ hr7 ?_
    refine rn_steps 0 36 [.ref l0, .int l1, .int l2] [.ref r7, .int l2, .int l1, .ref r6] rfl ?_
    obtain ⟨v8, hv8, h⟩ := Option.bind_eq_some_iff.mp h
    refine rn_gI (c := 0) (f := 1) rfl rfl ⟨⟨rfl, rfl⟩, Or.inl rfl⟩ hv8 ?_
    refine rn_steps 0 39 [.ref l0, .int l1, .int l2] [.int v8, .int l2, .int l1, .ref r6] rfl ?_
    obtain ⟨u10, hu10, h⟩ := Option.bind_eq_some_iff.mp h
    obtain ⟨y9, hy9, h⟩ := Option.bind_eq_some_iff.mp h
    refine rn_callV [.int l1, .int l2, .int v8] rfl rfl ⟨rfl, rfl⟩ hu10 rfl rfl (e49 (d + 1) hy9) ?_
    refine rn_steps 0 42 [.ref l0, .int l1, .int l2] [.int y9.1] rfl ?_
    cases h
    exact rn_ret rfl rfl rfl
  · rw [if_neg hb] at h
    refine rn_steps 1 14 [.ref l0, .int l1, .int l2] [.int (-1)] rfl ?_
    cases h
    exact rn_ret rfl rfl rfl
/-- LastAsked.die(I)I -/
noncomputable def f105 (l0 : Nat) (l1 : Int32) (σ : xM) : Option (Int32 × xM) :=
  (cO σ l0 7).bind fun u16 =>
  (f119 l0 l1 σ).bind fun y1 =>
  (cO y1.2 l0 7).bind fun u15 =>
  (f114 l0 y1.1 y1.2).bind fun y2 =>
  if y2.1 = 0 then
  (gR y2.2 l0 7 4).bind fun r3 =>
  (gR y2.2 l0 7 2).bind fun r4 =>
  (cO y2.2 r3 2).bind fun u14 =>
  (f18 r3 r4 y2.2).bind fun y5 =>
  (cO y5 l0 7).bind fun u13 =>
  (f129 l0 y5).bind fun y6 =>
  (gR y6.2 y6.1 6 0).bind fun r7 =>
  (aI y6.2 r7 l1).bind fun v8 =>
  (gR y6.2 l0 7 2).bind fun r9 =>
  (gR y6.2 l0 7 5).bind fun r10 =>
  (cO y6.2 r9 4).bind fun u12 =>
  (f51 r9 (1 <<< (l1 &&& 31)) r10 y6.2).bind fun y11 =>
  some (v8, y11)
  else
  some ((-1), y2.2)
set_option maxRecDepth 20000 in
set_option maxHeartbeats 1000000 in
theorem e105 (d : Nat) {l0 : Nat} {l1 : Int32} {σ : xM} {y : Int32 × xM} (h : f105 l0 l1 σ = some y) : Rn (d + 4) 105 0 [.ref l0, .int l1, .retAddr 0] [] σ (some (.int y.1), y.2) := by
  unfold f105 at h
  refine rn_steps 3 3 [.ref l0, .int l1, .retAddr 0] [.int l1, .ref l0, .ref l0] rfl ?_
  obtain ⟨u16, hu16, h⟩ := Option.bind_eq_some_iff.mp h
  obtain ⟨y1, hy1, h⟩ := Option.bind_eq_some_iff.mp h
  refine rn_callV [.int l1] rfl rfl ⟨rfl, rfl⟩ hu16 rfl rfl (e119 (d + 1) hy1) ?_
  refine rn_steps 0 6 [.ref l0, .int l1, .retAddr 0] [.int y1.1, .ref l0] rfl ?_
  obtain ⟨u15, hu15, h⟩ := Option.bind_eq_some_iff.mp h
  obtain ⟨y2, hy2, h⟩ := Option.bind_eq_some_iff.mp h
  refine rn_callV [.int y1.1] rfl rfl ⟨rfl, rfl⟩ hu15 rfl rfl (e114 (d + 3) hy2) ?_
  refine rn_steps 0 9 [.ref l0, .int l1, .retAddr 0] [.int y2.1] rfl ?_
  refine rn_br (c := y2.1 = 0) rfl rfl decide_eq_true_iff (fun hb => ?_) (fun hb => ?_)
  · rw [if_pos hb] at h
    refine rn_steps 1 15 [.ref l0, .int l1, .retAddr 0] [.ref l0] rfl ?_
    obtain ⟨r3, hr3, h⟩ := Option.bind_eq_some_iff.mp h
    refine rn_gR (c := 7) (f := 4) rfl rfl ⟨⟨rfl, rfl⟩, rfl⟩ hr3 ?_
    refine rn_steps 1 19 [.ref l0, .int l1, .retAddr 0] [.ref l0, .ref r3] rfl ?_
    obtain ⟨r4, hr4, h⟩ := Option.bind_eq_some_iff.mp h
    refine rn_gR (c := 7) (f := 2) rfl rfl ⟨⟨rfl, rfl⟩, rfl⟩ hr4 ?_
    refine rn_steps 0 22 [.ref l0, .int l1, .retAddr 0] [.ref r4, .ref r3] rfl ?_
    obtain ⟨u14, hu14, h⟩ := Option.bind_eq_some_iff.mp h
    obtain ⟨y5, hy5, h⟩ := Option.bind_eq_some_iff.mp h
    refine rn_callV [.ref r4] rfl rfl ⟨rfl, rfl⟩ hu14 rfl rfl (e18 (d + 1) hy5) ?_
    refine rn_steps 1 26 [.ref l0, .int l1, .retAddr 0] [.ref l0] rfl ?_
    obtain ⟨u13, hu13, h⟩ := Option.bind_eq_some_iff.mp h
    obtain ⟨y6, hy6, h⟩ := Option.bind_eq_some_iff.mp h
    refine rn_callV [] rfl rfl ⟨rfl, rfl⟩ hu13 rfl rfl (e129 d hy6) ?_
    refine rn_steps 0 29 [.ref l0, .int l1, .retAddr 0] [.ref y6.1] rfl ?_
    obtain ⟨r7, hr7, h⟩ := Option.bind_eq_some_iff.mp h
    refine rn_gR (c := 6) (f := 0) rfl rfl ⟨⟨rfl, rfl⟩, rfl⟩ hr7 ?_
    refine rn_steps 1 33 [.ref l0, .int l1, .retAddr 0] [.int l1, .ref r7] rfl ?_
    obtain ⟨v8, hv8, h⟩ := Option.bind_eq_some_iff.mp h
    refine rn_aI rfl hv8 ?_
    refine rn_steps 2 36 [.ref l0, .int l1, .int v8] [.ref l0] rfl ?_
    obtain ⟨r9, hr9, h⟩ := Option.bind_eq_some_iff.mp h
    refine rn_gR (c := 7) (f := 2) rfl rfl ⟨⟨rfl, rfl⟩, rfl⟩ hr9 ?_
    refine rn_steps 4 43 [.ref l0, .int l1, .int v8] [.ref l0, .int (1 <<< (l1 &&& 31)), .ref r9] rfl ?_
    obtain ⟨r10, hr10, h⟩ := Option.bind_eq_some_iff.mp h
    refine rn_gR (c := 7) (f := 5) rfl rfl ⟨⟨rfl, rfl⟩, rfl⟩ hr10 ?_
    refine rn_steps 0 46 [.ref l0, .int l1, .int v8] [.ref r10, .int (1 <<< (l1 &&& 31)), .ref r9] rfl ?_
    obtain ⟨u12, hu12, h⟩ := Option.bind_eq_some_iff.mp h
    obtain ⟨y11, hy11, h⟩ := Option.bind_eq_some_iff.mp h
    refine rn_callV [.int (1 <<< (l1 &&& 31)), .ref r10] rfl rfl ⟨rfl, rfl⟩ hu12 rfl rfl (e51 (d + 1) hy11) ?_
    refine rn_steps 1 50 [.ref l0, .int l1, .int v8] [.int v8] rfl ?_
    cases h
    exact rn_ret rfl rfl rfl
  · rw [if_neg hb] at h
    refine rn_steps 1 13 [.ref l0, .int l1, .retAddr 0] [.int (-1)] rfl ?_
    cases h
    exact rn_ret rfl rfl rfl
noncomputable def f106_30 (l0 : Nat) (s0 : Int32) (s1 : Nat) (σ : xM) : Option (Int32 × xM) :=
  (cO σ s1 7).bind fun u12 =>
  (f114 s1 s0 σ).bind fun y1 =>
  if y1.1 = 0 then
  (gR y1.2 l0 7 4).bind fun r2 =>
  (gR y1.2 l0 7 2).bind fun r3 =>
  (cO y1.2 r2 2).bind fun u11 =>
  (f18 r2 r3 y1.2).bind fun y4 =>
  (gR y4 l0 7 2).bind fun r5 =>
  (gI y4 r5 4 2).bind fun v6 =>
  (pI y4 r5 4 2 (v6 + 1)).bind fun σ7 =>
  (gR σ7 l0 7 2).bind fun r8 =>
  (cO σ7 l0 7).bind fun u10 =>
  (f145 l0 r8 σ7).bind fun y9 =>
  some (y9.1, y9.2)
  else
  some ((-1), y1.2)
set_option maxRecDepth 20000 in
set_option maxHeartbeats 1000000 in
theorem e106_30 (d : Nat) (l0 : Nat) (s0 : Int32) (s1 : Nat) (σ : xM) (y : Int32 × xM) (h : f106_30 l0 s0 s1 σ = some y) : Rn (d + 4) 106 30 [.ref l0] [.int s0, .ref s1] σ (some (.int y.1), y.2) := by
  unfold f106_30 at h
  obtain ⟨u12, hu12, h⟩ := Option.bind_eq_some_iff.mp h
  obtain ⟨y1, hy1, h⟩ := Option.bind_eq_some_iff.mp h
  refine rn_callV [.int s0] rfl rfl ⟨rfl, rfl⟩ hu12 rfl rfl (e114 (d + 3) hy1) ?_
  refine rn_steps 0 33 [.ref l0] [.int y1.1] rfl ?_
  refine rn_br (c := y1.1 = 0) rfl rfl decide_eq_true_iff (fun hb => ?_) (fun hb => ?_)
  · rw [if_pos hb] at h
    refine rn_steps 1 39 [.ref l0] [.ref l0] rfl ?_
    obtain ⟨r2, hr2, h⟩ := Option.bind_eq_some_iff.mp h
    refine rn_gR (c := 7) (f := 4) rfl rfl ⟨⟨rfl, rfl⟩, rfl⟩ hr2 ?_
    refine rn_steps 1 43 [.ref l0] [.ref l0, .ref r2] rfl ?_
    obtain ⟨r3, hr3, h⟩ := Option.bind_eq_some_iff.mp h
    refine rn_gR (c := 7) (f := 2) rfl rfl ⟨⟨rfl, rfl⟩, rfl⟩ hr3 ?_
    refine rn_steps 0 46 [.ref l0] [.ref r3, .ref r2] rfl ?_
    obtain ⟨u11, hu11, h⟩ := Option.bind_eq_some_iff.mp h
    obtain ⟨y4, hy4, h⟩ := Option.bind_eq_some_iff.mp h
    refine rn_callV [.ref r3] rfl rfl ⟨rfl, rfl⟩ hu11 rfl rfl (e18 (d + 1) hy4) ?_
    refine rn_steps 1 50 [.ref l0] [.ref l0] rfl ?_
    obtain ⟨r5, hr5, h⟩ := Option.bind_eq_some_iff.mp h
    refine rn_gR (c := 7) (f := 2) rfl rfl ⟨⟨rfl, rfl⟩, rfl⟩ hr5 ?_
    refine rn_steps 1 54 [.ref l0] [.ref r5, .ref r5] rfl ?_
    obtain ⟨v6, hv6, h⟩ := Option.bind_eq_some_iff.mp h
    refine rn_gI (c := 4) (f := 2) rfl rfl ⟨⟨rfl, rfl⟩, Or.inl rfl⟩ hv6 ?_
    refine rn_steps 2 59 [.ref l0] [.int (v6 + 1), .ref r5] rfl ?_
    obtain ⟨σ7, hσ7, h⟩ := Option.bind_eq_some_iff.mp h
    refine rn_pI (c := 4) (f := 2) rfl rfl ⟨⟨rfl, rfl⟩, rfl⟩ hσ7 ?_
    refine rn_steps 2 64 [.ref l0] [.ref l0, .ref l0] rfl ?_
    obtain ⟨r8, hr8, h⟩ := Option.bind_eq_some_iff.mp h
    refine rn_gR (c := 7) (f := 2) rfl rfl ⟨⟨rfl, rfl⟩, rfl⟩ hr8 ?_
    refine rn_steps 0 67 [.ref l0] [.ref r8, .ref l0] rfl ?_
    obtain ⟨u10, hu10, h⟩ := Option.bind_eq_some_iff.mp h
    obtain ⟨y9, hy9, h⟩ := Option.bind_eq_some_iff.mp h
    refine rn_callV [.ref r8] rfl rfl ⟨rfl, rfl⟩ hu10 rfl rfl (e145 d hy9) ?_
    refine rn_steps 0 70 [.ref l0] [.int y9.1] rfl ?_
    cases h
    exact rn_ret rfl rfl rfl
  · rw [if_neg hb] at h
    refine rn_steps 1 37 [.ref l0] [.int (-1)] rfl ?_
    cases h
    exact rn_ret rfl rfl rfl
/-- LastAsked.night()I -/
noncomputable def f106 (l0 : Nat) (σ : xM) : Option (Int32 × xM) :=
  (cO σ l0 7).bind fun u4 =>
  (f115 l0 σ).bind fun y1 =>
  if y1.1 = 0 then
  f106_30 l0 1 l0 y1.2
  else
  (gR y1.2 l0 7 2).bind fun r2 =>
  (gI y1.2 r2 4 2).bind fun v3 =>
  if v3 < 999 then
  f106_30 l0 0 l0 y1.2
  else
  f106_30 l0 3 l0 y1.2
set_option maxRecDepth 20000 in
set_option maxHeartbeats 1000000 in
theorem e106 (d : Nat) {l0 : Nat} {σ : xM} {y : Int32 × xM} (h : f106 l0 σ = some y) : Rn (d + 4) 106 0 [.ref l0] [] σ (some (.int y.1), y.2) := by
  unfold f106 at h
  refine rn_steps 2 2 [.ref l0] [.ref l0, .ref l0] rfl ?_
  obtain ⟨u4, hu4, h⟩ := Option.bind_eq_some_iff.mp h
  obtain ⟨y1, hy1, h⟩ := Option.bind_eq_some_iff.mp h
  refine rn_callV [] rfl rfl ⟨rfl, rfl⟩ hu4 rfl rfl (e115 (d + 3) hy1) ?_
  refine rn_steps 0 5 [.ref l0] [.int y1.1, .ref l0] rfl ?_
  refine rn_br (c := ¬ y1.1 = 0) rfl rfl decide_eq_true_iff (fun hb => ?_) (fun hb => ?_)
  · rw [if_neg hb] at h
    refine rn_steps 1 13 [.ref l0] [.ref l0, .ref l0] rfl ?_
    obtain ⟨r2, hr2, h⟩ := Option.bind_eq_some_iff.mp h
    refine rn_gR (c := 7) (f := 2) rfl rfl ⟨⟨rfl, rfl⟩, rfl⟩ hr2 ?_
    refine rn_steps 0 16 [.ref l0] [.ref r2, .ref l0] rfl ?_
    obtain ⟨v3, hv3, h⟩ := Option.bind_eq_some_iff.mp h
    refine rn_gI (c := 4) (f := 2) rfl rfl ⟨⟨rfl, rfl⟩, Or.inl rfl⟩ hv3 ?_
    refine rn_steps 1 22 [.ref l0] [.int 999, .int v3, .ref l0] rfl ?_
    refine rn_br (c := v3 < 999) rfl rfl decide_eq_true_iff (fun hb => ?_) (fun hb => ?_)
    · rw [if_pos hb] at h
      refine rn_steps 1 30 [.ref l0] [.int 0, .ref l0] rfl ?_
      exact e106_30 d _ _ _ _ _ h
    · rw [if_neg hb] at h
      refine rn_steps 2 30 [.ref l0] [.int 3, .ref l0] rfl ?_
      exact e106_30 d _ _ _ _ _ h
  · rw [if_pos (Decidable.not_not.mp hb)] at h
    refine rn_steps 2 30 [.ref l0] [.int 1, .ref l0] rfl ?_
    exact e106_30 d _ _ _ _ _ h
noncomputable def f107_28 (l0 : Nat) (l1 : Int32) (s0 : Int32) (s1 : Nat) (σ : xM) : Option (Int32 × xM) :=
  (cO σ s1 7).bind fun u4 =>
  (f114 s1 s0 σ).bind fun y1 =>
  if y1.1 = 0 then
  (gR y1.2 l0 7 2).bind fun r2 =>
  (pI y1.2 r2 4 1 l1).bind fun σ3 =>
  rZ 1 σ3
  else
  rZ 0 y1.2
set_option maxRecDepth 20000 in
set_option maxHeartbeats 1000000 in
theorem e107_28 (d : Nat) (l0 : Nat) (l1 : Int32) (s0 : Int32) (s1 : Nat) (σ : xM) (y : Int32 × xM) (h : f107_28 l0 l1 s0 s1 σ = some y) : Rn (d + 1) 107 28 [.ref l0, .int l1] [.int s0, .ref s1] σ (some (.int y.1), y.2) := by
  unfold f107_28 at h
  obtain ⟨u4, hu4, h⟩ := Option.bind_eq_some_iff.mp h
  obtain ⟨y1, hy1, h⟩ := Option.bind_eq_some_iff.mp h
  refine rn_callV [.int s0] rfl rfl ⟨rfl, rfl⟩ hu4 rfl rfl (e114 d hy1) ?_
  refine rn_steps 0 31 [.ref l0, .int l1] [.int y1.1] rfl ?_
  refine rn_br (c := y1.1 = 0) rfl rfl decide_eq_true_iff (fun hb => ?_) (fun hb => ?_)
  · rw [if_pos hb] at h
    refine rn_steps 1 37 [.ref l0, .int l1] [.ref l0] rfl ?_
    obtain ⟨r2, hr2, h⟩ := Option.bind_eq_some_iff.mp h
    refine rn_gR (c := 7) (f := 2) rfl rfl ⟨⟨rfl, rfl⟩, rfl⟩ hr2 ?_
    refine rn_steps 1 41 [.ref l0, .int l1] [.int l1, .ref r2] rfl ?_
    obtain ⟨σ3, hσ3, h⟩ := Option.bind_eq_some_iff.mp h
    refine rn_pI (c := 4) (f := 1) rfl rfl ⟨⟨rfl, rfl⟩, rfl⟩ hσ3 ?_
    refine rn_steps 1 45 [.ref l0, .int l1] [.int 1] rfl ?_
    exact rn_retZ rfl rfl h
  · rw [if_neg hb] at h
    refine rn_steps 1 35 [.ref l0, .int l1] [.int 0] rfl ?_
    exact rn_retZ rfl rfl h
noncomputable def f107_27 (l0 : Nat) (l1 : Int32) (s0 : Nat) (σ : xM) : Option (Int32 × xM) :=
  f107_28 l0 l1 2 s0 σ
set_option maxRecDepth 20000 in
set_option maxHeartbeats 1000000 in
theorem e107_27 (d : Nat) (l0 : Nat) (l1 : Int32) (s0 : Nat) (σ : xM) (y : Int32 × xM) (h : f107_27 l0 l1 s0 σ = some y) : Rn (d + 1) 107 27 [.ref l0, .int l1] [.ref s0] σ (some (.int y.1), y.2) := by
  unfold f107_27 at h
  refine rn_steps 1 28 [.ref l0, .int l1] [.int 2, .ref s0] rfl ?_
  exact e107_28 d _ _ _ _ _ _ h
/-- LastAsked.seed(I)Z -/
noncomputable def f107 (l0 : Nat) (l1 : Int32) (σ : xM) : Option (Int32 × xM) :=
  (cO σ l0 7).bind fun u2 =>
  (f115 l0 σ).bind fun y1 =>
  if y1.1 = 0 then
  f107_28 l0 l1 1 l0 y1.2
  else
  if l1 < 0 then
  f107_27 l0 l1 l0 y1.2
  else
  if 65536 < l1 then
  f107_27 l0 l1 l0 y1.2
  else
  f107_28 l0 l1 0 l0 y1.2
set_option maxRecDepth 20000 in
set_option maxHeartbeats 1000000 in
theorem e107 (d : Nat) {l0 : Nat} {l1 : Int32} {σ : xM} {y : Int32 × xM} (h : f107 l0 l1 σ = some y) : Rn (d + 1) 107 0 [.ref l0, .int l1] [] σ (some (.int y.1), y.2) := by
  unfold f107 at h
  refine rn_steps 2 2 [.ref l0, .int l1] [.ref l0, .ref l0] rfl ?_
  obtain ⟨u2, hu2, h⟩ := Option.bind_eq_some_iff.mp h
  obtain ⟨y1, hy1, h⟩ := Option.bind_eq_some_iff.mp h
  refine rn_callV [] rfl rfl ⟨rfl, rfl⟩ hu2 rfl rfl (e115 d hy1) ?_
  refine rn_steps 0 5 [.ref l0, .int l1] [.int y1.1, .ref l0] rfl ?_
  refine rn_br (c := ¬ y1.1 = 0) rfl rfl decide_eq_true_iff (fun hb => ?_) (fun hb => ?_)
  · rw [if_neg hb] at h
    refine rn_steps 1 13 [.ref l0, .int l1] [.int l1, .ref l0] rfl ?_
    refine rn_br (c := l1 < 0) rfl rfl decide_eq_true_iff (fun hb => ?_) (fun hb => ?_)
    · rw [if_pos hb] at h
      refine rn_steps 0 27 [.ref l0, .int l1] [.ref l0] rfl ?_
      exact e107_27 d _ _ _ _ _ h
    · rw [if_neg hb] at h
      refine rn_steps 2 20 [.ref l0, .int l1] [.int 65536, .int l1, .ref l0] rfl ?_
      refine rn_br (c := 65536 < l1) rfl rfl decide_eq_true_iff (fun hb => ?_) (fun hb => ?_)
      · rw [if_pos hb] at h
        refine rn_steps 0 27 [.ref l0, .int l1] [.ref l0] rfl ?_
        exact e107_27 d _ _ _ _ _ h
      · rw [if_neg hb] at h
        refine rn_steps 2 28 [.ref l0, .int l1] [.int 0, .ref l0] rfl ?_
        exact e107_28 d _ _ _ _ _ _ h
  · rw [if_pos (Decidable.not_not.mp hb)] at h
    refine rn_steps 2 28 [.ref l0, .int l1] [.int 1, .ref l0] rfl ?_
    exact e107_28 d _ _ _ _ _ _ h
noncomputable def f108_32 (s0 : Int32) (σ : xM) : Option (Int32 × xM) :=
  rZ s0 σ
set_option maxRecDepth 20000 in
set_option maxHeartbeats 1000000 in
theorem e108_32 (d : Nat) (s0 : Int32) (x0 : Value) (σ : xM) (y : Int32 × xM) (h : f108_32 s0 σ = some y) : Rn (d + 3) 108 32 [x0] [.int s0] σ (some (.int y.1), y.2) := by
  unfold f108_32 at h
  exact rn_retZ rfl rfl h
noncomputable def f108_21 (s0 : Int32) (s1 : Nat) (σ : xM) : Option (Int32 × xM) :=
  (cO σ s1 7).bind fun u2 =>
  (f114 s1 s0 σ).bind fun y1 =>
  if y1.1 = 0 then
  f108_32 1 y1.2
  else
  f108_32 0 y1.2
set_option maxRecDepth 20000 in
set_option maxHeartbeats 1000000 in
theorem e108_21 (d : Nat) (s0 : Int32) (s1 : Nat) (x0 : Value) (σ : xM) (y : Int32 × xM) (h : f108_21 s0 s1 σ = some y) : Rn (d + 3) 108 21 [x0] [.int s0, .ref s1] σ (some (.int y.1), y.2) := by
  unfold f108_21 at h
  obtain ⟨u2, hu2, h⟩ := Option.bind_eq_some_iff.mp h
  obtain ⟨y1, hy1, h⟩ := Option.bind_eq_some_iff.mp h
  refine rn_callV [.int s0] rfl rfl ⟨rfl, rfl⟩ hu2 rfl rfl (e114 (d + 2) hy1) ?_
  refine rn_steps 0 24 [x0] [.int y1.1] rfl ?_
  refine rn_br (c := ¬ y1.1 = 0) rfl rfl decide_eq_true_iff (fun hb => ?_) (fun hb => ?_)
  · rw [if_neg hb] at h
    refine rn_steps 1 32 [x0] [.int 0] rfl ?_
    exact e108_32 d _ _ _ _ h
  · rw [if_pos (Decidable.not_not.mp hb)] at h
    refine rn_steps 2 32 [x0] [.int 1] rfl ?_
    exact e108_32 d _ _ _ _ h
/-- LastAsked.undo()Z -/
noncomputable def f108 (l0 : Nat) (σ : xM) : Option (Int32 × xM) :=
  (gR σ l0 7 4).bind fun r1 =>
  (gR σ l0 7 2).bind fun r2 =>
  (cO σ r1 2).bind fun u4 =>
  (f19 r1 r2 σ).bind fun y3 =>
  if y3.1 = 0 then
  f108_21 6 l0 y3.2
  else
  f108_21 0 l0 y3.2
set_option maxRecDepth 20000 in
set_option maxHeartbeats 1000000 in
theorem e108 (d : Nat) {l0 : Nat} {σ : xM} {y : Int32 × xM} (h : f108 l0 σ = some y) : Rn (d + 3) 108 0 [.ref l0] [] σ (some (.int y.1), y.2) := by
  unfold f108 at h
  refine rn_steps 2 2 [.ref l0] [.ref l0, .ref l0] rfl ?_
  obtain ⟨r1, hr1, h⟩ := Option.bind_eq_some_iff.mp h
  refine rn_gR (c := 7) (f := 4) rfl rfl ⟨⟨rfl, rfl⟩, rfl⟩ hr1 ?_
  refine rn_steps 1 6 [.ref l0] [.ref l0, .ref r1, .ref l0] rfl ?_
  obtain ⟨r2, hr2, h⟩ := Option.bind_eq_some_iff.mp h
  refine rn_gR (c := 7) (f := 2) rfl rfl ⟨⟨rfl, rfl⟩, rfl⟩ hr2 ?_
  refine rn_steps 0 9 [.ref l0] [.ref r2, .ref r1, .ref l0] rfl ?_
  obtain ⟨u4, hu4, h⟩ := Option.bind_eq_some_iff.mp h
  obtain ⟨y3, hy3, h⟩ := Option.bind_eq_some_iff.mp h
  refine rn_callV [.ref r2] rfl rfl ⟨rfl, rfl⟩ hu4 rfl rfl (e19 d hy3) ?_
  refine rn_steps 0 12 [.ref l0] [.int y3.1, .ref l0] rfl ?_
  refine rn_br (c := y3.1 = 0) rfl rfl decide_eq_true_iff (fun hb => ?_) (fun hb => ?_)
  · rw [if_pos hb] at h
    refine rn_steps 1 21 [.ref l0] [.int 6, .ref l0] rfl ?_
    exact e108_21 d _ _ _ _ _ h
  · rw [if_neg hb] at h
    refine rn_steps 2 21 [.ref l0] [.int 0, .ref l0] rfl ?_
    exact e108_21 d _ _ _ _ _ h
noncomputable def f109_28 (l0 : Nat) (s0 : Int32) (s1 : Nat) (σ : xM) : Option (Int32 × xM) :=
  (cO σ s1 7).bind fun u6 =>
  (f114 s1 s0 σ).bind fun y1 =>
  if y1.1 = 0 then
  (gR y1.2 l0 7 4).bind fun r2 =>
  (gR y1.2 l0 7 2).bind fun r3 =>
  (cO y1.2 r2 2).bind fun u5 =>
  (f20 r2 r3 y1.2).bind fun y4 =>
  some (y4.1, y4.2)
  else
  some ((-1), y1.2)
set_option maxRecDepth 20000 in
set_option maxHeartbeats 1000000 in
theorem e109_28 (d : Nat) (l0 : Nat) (s0 : Int32) (s1 : Nat) (σ : xM) (y : Int32 × xM) (h : f109_28 l0 s0 s1 σ = some y) : Rn (d + 3) 109 28 [.ref l0] [.int s0, .ref s1] σ (some (.int y.1), y.2) := by
  unfold f109_28 at h
  obtain ⟨u6, hu6, h⟩ := Option.bind_eq_some_iff.mp h
  obtain ⟨y1, hy1, h⟩ := Option.bind_eq_some_iff.mp h
  refine rn_callV [.int s0] rfl rfl ⟨rfl, rfl⟩ hu6 rfl rfl (e114 (d + 2) hy1) ?_
  refine rn_steps 0 31 [.ref l0] [.int y1.1] rfl ?_
  refine rn_br (c := y1.1 = 0) rfl rfl decide_eq_true_iff (fun hb => ?_) (fun hb => ?_)
  · rw [if_pos hb] at h
    refine rn_steps 1 37 [.ref l0] [.ref l0] rfl ?_
    obtain ⟨r2, hr2, h⟩ := Option.bind_eq_some_iff.mp h
    refine rn_gR (c := 7) (f := 4) rfl rfl ⟨⟨rfl, rfl⟩, rfl⟩ hr2 ?_
    refine rn_steps 1 41 [.ref l0] [.ref l0, .ref r2] rfl ?_
    obtain ⟨r3, hr3, h⟩ := Option.bind_eq_some_iff.mp h
    refine rn_gR (c := 7) (f := 2) rfl rfl ⟨⟨rfl, rfl⟩, rfl⟩ hr3 ?_
    refine rn_steps 0 44 [.ref l0] [.ref r3, .ref r2] rfl ?_
    obtain ⟨u5, hu5, h⟩ := Option.bind_eq_some_iff.mp h
    obtain ⟨y4, hy4, h⟩ := Option.bind_eq_some_iff.mp h
    refine rn_callV [.ref r3] rfl rfl ⟨rfl, rfl⟩ hu5 rfl rfl (e20 d hy4) ?_
    refine rn_steps 0 47 [.ref l0] [.int y4.1] rfl ?_
    cases h
    exact rn_ret rfl rfl rfl
  · rw [if_neg hb] at h
    refine rn_steps 1 35 [.ref l0] [.int (-1)] rfl ?_
    cases h
    exact rn_ret rfl rfl rfl
/-- LastAsked.image()I -/
noncomputable def f109 (l0 : Nat) (σ : xM) : Option (Int32 × xM) :=
  (cO σ l0 7).bind fun u4 =>
  (f115 l0 σ).bind fun y1 =>
  if y1.1 = 0 then
  f109_28 l0 1 l0 y1.2
  else
  (gR y1.2 l0 7 4).bind fun r2 =>
  (gI y1.2 r2 2 1).bind fun v3 =>
  if v3 < 3 then
  f109_28 l0 0 l0 y1.2
  else
  f109_28 l0 3 l0 y1.2
set_option maxRecDepth 20000 in
set_option maxHeartbeats 1000000 in
theorem e109 (d : Nat) {l0 : Nat} {σ : xM} {y : Int32 × xM} (h : f109 l0 σ = some y) : Rn (d + 3) 109 0 [.ref l0] [] σ (some (.int y.1), y.2) := by
  unfold f109 at h
  refine rn_steps 2 2 [.ref l0] [.ref l0, .ref l0] rfl ?_
  obtain ⟨u4, hu4, h⟩ := Option.bind_eq_some_iff.mp h
  obtain ⟨y1, hy1, h⟩ := Option.bind_eq_some_iff.mp h
  refine rn_callV [] rfl rfl ⟨rfl, rfl⟩ hu4 rfl rfl (e115 (d + 2) hy1) ?_
  refine rn_steps 0 5 [.ref l0] [.int y1.1, .ref l0] rfl ?_
  refine rn_br (c := ¬ y1.1 = 0) rfl rfl decide_eq_true_iff (fun hb => ?_) (fun hb => ?_)
  · rw [if_neg hb] at h
    refine rn_steps 1 13 [.ref l0] [.ref l0, .ref l0] rfl ?_
    obtain ⟨r2, hr2, h⟩ := Option.bind_eq_some_iff.mp h
    refine rn_gR (c := 7) (f := 4) rfl rfl ⟨⟨rfl, rfl⟩, rfl⟩ hr2 ?_
    refine rn_steps 0 16 [.ref l0] [.ref r2, .ref l0] rfl ?_
    obtain ⟨v3, hv3, h⟩ := Option.bind_eq_some_iff.mp h
    refine rn_gI (c := 2) (f := 1) rfl rfl ⟨⟨rfl, rfl⟩, Or.inl rfl⟩ hv3 ?_
    refine rn_steps 1 20 [.ref l0] [.int 3, .int v3, .ref l0] rfl ?_
    refine rn_br (c := v3 < 3) rfl rfl decide_eq_true_iff (fun hb => ?_) (fun hb => ?_)
    · rw [if_pos hb] at h
      refine rn_steps 1 28 [.ref l0] [.int 0, .ref l0] rfl ?_
      exact e109_28 d _ _ _ _ _ h
    · rw [if_neg hb] at h
      refine rn_steps 2 28 [.ref l0] [.int 3, .ref l0] rfl ?_
      exact e109_28 d _ _ _ _ _ h
  · rw [if_pos (Decidable.not_not.mp hb)] at h
    refine rn_steps 2 28 [.ref l0] [.int 1, .ref l0] rfl ?_
    exact e109_28 d _ _ _ _ _ h
noncomputable def f110_32 (s0 : Int32) (σ : xM) : Option (Int32 × xM) :=
  rZ s0 σ
set_option maxRecDepth 20000 in
set_option maxHeartbeats 1000000 in
theorem e110_32 (d : Nat) (s0 : Int32) (x0 x1 : Value) (σ : xM) (y : Int32 × xM) (h : f110_32 s0 σ = some y) : Rn (d + 3) 110 32 [x0, x1] [.int s0] σ (some (.int y.1), y.2) := by
  unfold f110_32 at h
  exact rn_retZ rfl rfl h
noncomputable def f110_21 (s0 : Int32) (s1 : Nat) (σ : xM) : Option (Int32 × xM) :=
  (cO σ s1 7).bind fun u2 =>
  (f114 s1 s0 σ).bind fun y1 =>
  if y1.1 = 0 then
  f110_32 1 y1.2
  else
  f110_32 0 y1.2
set_option maxRecDepth 20000 in
set_option maxHeartbeats 1000000 in
theorem e110_21 (d : Nat) (s0 : Int32) (s1 : Nat) (x0 x1 : Value) (σ : xM) (y : Int32 × xM) (h : f110_21 s0 s1 σ = some y) : Rn (d + 3) 110 21 [x0, x1] [.int s0, .ref s1] σ (some (.int y.1), y.2) := by
  unfold f110_21 at h
  obtain ⟨u2, hu2, h⟩ := Option.bind_eq_some_iff.mp h
  obtain ⟨y1, hy1, h⟩ := Option.bind_eq_some_iff.mp h
  refine rn_callV [.int s0] rfl rfl ⟨rfl, rfl⟩ hu2 rfl rfl (e114 (d + 2) hy1) ?_
  refine rn_steps 0 24 [x0, x1] [.int y1.1] rfl ?_
  refine rn_br (c := ¬ y1.1 = 0) rfl rfl decide_eq_true_iff (fun hb => ?_) (fun hb => ?_)
  · rw [if_neg hb] at h
    refine rn_steps 1 32 [x0, x1] [.int 0] rfl ?_
    exact e110_32 d _ _ _ _ _ h
  · rw [if_pos (Decidable.not_not.mp hb)] at h
    refine rn_steps 2 32 [x0, x1] [.int 1] rfl ?_
    exact e110_32 d _ _ _ _ _ h
/-- LastAsked.back(I)Z -/
noncomputable def f110 (l0 : Nat) (l1 : Int32) (σ : xM) : Option (Int32 × xM) :=
  (gR σ l0 7 4).bind fun r1 =>
  (gR σ l0 7 2).bind fun r2 =>
  (cO σ r1 2).bind fun u4 =>
  (f21 r1 l1 r2 σ).bind fun y3 =>
  if y3.1 = 0 then
  f110_21 1 l0 y3.2
  else
  f110_21 0 l0 y3.2
set_option maxRecDepth 20000 in
set_option maxHeartbeats 1000000 in
theorem e110 (d : Nat) {l0 : Nat} {l1 : Int32} {σ : xM} {y : Int32 × xM} (h : f110 l0 l1 σ = some y) : Rn (d + 3) 110 0 [.ref l0, .int l1] [] σ (some (.int y.1), y.2) := by
  unfold f110 at h
  refine rn_steps 2 2 [.ref l0, .int l1] [.ref l0, .ref l0] rfl ?_
  obtain ⟨r1, hr1, h⟩ := Option.bind_eq_some_iff.mp h
  refine rn_gR (c := 7) (f := 4) rfl rfl ⟨⟨rfl, rfl⟩, rfl⟩ hr1 ?_
  refine rn_steps 2 7 [.ref l0, .int l1] [.ref l0, .int l1, .ref r1, .ref l0] rfl ?_
  obtain ⟨r2, hr2, h⟩ := Option.bind_eq_some_iff.mp h
  refine rn_gR (c := 7) (f := 2) rfl rfl ⟨⟨rfl, rfl⟩, rfl⟩ hr2 ?_
  refine rn_steps 0 10 [.ref l0, .int l1] [.ref r2, .int l1, .ref r1, .ref l0] rfl ?_
  obtain ⟨u4, hu4, h⟩ := Option.bind_eq_some_iff.mp h
  obtain ⟨y3, hy3, h⟩ := Option.bind_eq_some_iff.mp h
  refine rn_callV [.int l1, .ref r2] rfl rfl ⟨rfl, rfl⟩ hu4 rfl rfl (e21 d hy3) ?_
  refine rn_steps 0 13 [.ref l0, .int l1] [.int y3.1, .ref l0] rfl ?_
  refine rn_br (c := y3.1 = 0) rfl rfl decide_eq_true_iff (fun hb => ?_) (fun hb => ?_)
  · rw [if_pos hb] at h
    refine rn_steps 1 21 [.ref l0, .int l1] [.int 1, .ref l0] rfl ?_
    exact e110_21 d _ _ _ _ _ _ h
  · rw [if_neg hb] at h
    refine rn_steps 2 21 [.ref l0, .int l1] [.int 0, .ref l0] rfl ?_
    exact e110_21 d _ _ _ _ _ _ h
/-- java/lang/Integer.bitCount(I)I -/
noncomputable def f273 (l0 : Int32) (σ : xM) : Option (Int32 × xM) :=
  some (((((((((l0 - (((l0.toUInt32 >>> ((1 : Int32).toUInt32 &&& Int32.toUInt32 31)).toInt32) &&& 1431655765)) &&& 858993459) + ((((l0 - (((l0.toUInt32 >>> ((1 : Int32).toUInt32 &&& Int32.toUInt32 31)).toInt32) &&& 1431655765)).toUInt32 >>> ((2 : Int32).toUInt32 &&& Int32.toUInt32 31)).toInt32) &&& 858993459)) + (((((l0 - (((l0.toUInt32 >>> ((1 : Int32).toUInt32 &&& Int32.toUInt32 31)).toInt32) &&& 1431655765)) &&& 858993459) + ((((l0 - (((l0.toUInt32 >>> ((1 : Int32).toUInt32 &&& Int32.toUInt32 31)).toInt32) &&& 1431655765)).toUInt32 >>> ((2 : Int32).toUInt32 &&& Int32.toUInt32 31)).toInt32) &&& 858993459)).toUInt32 >>> ((4 : Int32).toUInt32 &&& Int32.toUInt32 31)).toInt32)) &&& 252645135) + (((((((l0 - (((l0.toUInt32 >>> ((1 : Int32).toUInt32 &&& Int32.toUInt32 31)).toInt32) &&& 1431655765)) &&& 858993459) + ((((l0 - (((l0.toUInt32 >>> ((1 : Int32).toUInt32 &&& Int32.toUInt32 31)).toInt32) &&& 1431655765)).toUInt32 >>> ((2 : Int32).toUInt32 &&& Int32.toUInt32 31)).toInt32) &&& 858993459)) + (((((l0 - (((l0.toUInt32 >>> ((1 : Int32).toUInt32 &&& Int32.toUInt32 31)).toInt32) &&& 1431655765)) &&& 858993459) + ((((l0 - (((l0.toUInt32 >>> ((1 : Int32).toUInt32 &&& Int32.toUInt32 31)).toInt32) &&& 1431655765)).toUInt32 >>> ((2 : Int32).toUInt32 &&& Int32.toUInt32 31)).toInt32) &&& 858993459)).toUInt32 >>> ((4 : Int32).toUInt32 &&& Int32.toUInt32 31)).toInt32)) &&& 252645135).toUInt32 >>> ((8 : Int32).toUInt32 &&& Int32.toUInt32 31)).toInt32)) + ((((((((l0 - (((l0.toUInt32 >>> ((1 : Int32).toUInt32 &&& Int32.toUInt32 31)).toInt32) &&& 1431655765)) &&& 858993459) + ((((l0 - (((l0.toUInt32 >>> ((1 : Int32).toUInt32 &&& Int32.toUInt32 31)).toInt32) &&& 1431655765)).toUInt32 >>> ((2 : Int32).toUInt32 &&& Int32.toUInt32 31)).toInt32) &&& 858993459)) + (((((l0 - (((l0.toUInt32 >>> ((1 : Int32).toUInt32 &&& Int32.toUInt32 31)).toInt32) &&& 1431655765)) &&& 858993459) + ((((l0 - (((l0.toUInt32 >>> ((1 : Int32).toUInt32 &&& Int32.toUInt32 31)).toInt32) &&& 1431655765)).toUInt32 >>> ((2 : Int32).toUInt32 &&& Int32.toUInt32 31)).toInt32) &&& 858993459)).toUInt32 >>> ((4 : Int32).toUInt32 &&& Int32.toUInt32 31)).toInt32)) &&& 252645135) + (((((((l0 - (((l0.toUInt32 >>> ((1 : Int32).toUInt32 &&& Int32.toUInt32 31)).toInt32) &&& 1431655765)) &&& 858993459) + ((((l0 - (((l0.toUInt32 >>> ((1 : Int32).toUInt32 &&& Int32.toUInt32 31)).toInt32) &&& 1431655765)).toUInt32 >>> ((2 : Int32).toUInt32 &&& Int32.toUInt32 31)).toInt32) &&& 858993459)) + (((((l0 - (((l0.toUInt32 >>> ((1 : Int32).toUInt32 &&& Int32.toUInt32 31)).toInt32) &&& 1431655765)) &&& 858993459) + ((((l0 - (((l0.toUInt32 >>> ((1 : Int32).toUInt32 &&& Int32.toUInt32 31)).toInt32) &&& 1431655765)).toUInt32 >>> ((2 : Int32).toUInt32 &&& Int32.toUInt32 31)).toInt32) &&& 858993459)).toUInt32 >>> ((4 : Int32).toUInt32 &&& Int32.toUInt32 31)).toInt32)) &&& 252645135).toUInt32 >>> ((8 : Int32).toUInt32 &&& Int32.toUInt32 31)).toInt32)).toUInt32 >>> ((16 : Int32).toUInt32 &&& Int32.toUInt32 31)).toInt32)) &&& 63), σ)
set_option maxRecDepth 20000 in
set_option maxHeartbeats 1000000 in
theorem e273 (d : Nat) {l0 : Int32} {σ : xM} {y : Int32 × xM} (h : f273 l0 σ = some y) : Rn (d + 0) 273 0 [.int l0] [] σ (some (.int y.1), y.2) := by
  unfold f273 at h
  refine rn_steps 41 52 [.int (((((((l0 - (((l0.toUInt32 >>> ((1 : Int32).toUInt32 &&& Int32.toUInt32 31)).toInt32) &&& 1431655765)) &&& 858993459) + ((((l0 - (((l0.toUInt32 >>> ((1 : Int32).toUInt32 &&& Int32.toUInt32 31)).toInt32) &&& 1431655765)).toUInt32 >>> ((2 : Int32).toUInt32 &&& Int32.toUInt32 31)).toInt32) &&& 858993459)) + (((((l0 - (((l0.toUInt32 >>> ((1 : Int32).toUInt32 &&& Int32.toUInt32 31)).toInt32) &&& 1431655765)) &&& 858993459) + ((((l0 - (((l0.toUInt32 >>> ((1 : Int32).toUInt32 &&& Int32.toUInt32 31)).toInt32) &&& 1431655765)).toUInt32 >>> ((2 : Int32).toUInt32 &&& Int32.toUInt32 31)).toInt32) &&& 858993459)).toUInt32 >>> ((4 : Int32).toUInt32 &&& Int32.toUInt32 31)).toInt32)) &&& 252645135) + (((((((l0 - (((l0.toUInt32 >>> ((1 : Int32).toUInt32 &&& Int32.toUInt32 31)).toInt32) &&& 1431655765)) &&& 858993459) + ((((l0 - (((l0.toUInt32 >>> ((1 : Int32).toUInt32 &&& Int32.toUInt32 31)).toInt32) &&& 1431655765)).toUInt32 >>> ((2 : Int32).toUInt32 &&& Int32.toUInt32 31)).toInt32) &&& 858993459)) + (((((l0 - (((l0.toUInt32 >>> ((1 : Int32).toUInt32 &&& Int32.toUInt32 31)).toInt32) &&& 1431655765)) &&& 858993459) + ((((l0 - (((l0.toUInt32 >>> ((1 : Int32).toUInt32 &&& Int32.toUInt32 31)).toInt32) &&& 1431655765)).toUInt32 >>> ((2 : Int32).toUInt32 &&& Int32.toUInt32 31)).toInt32) &&& 858993459)).toUInt32 >>> ((4 : Int32).toUInt32 &&& Int32.toUInt32 31)).toInt32)) &&& 252645135).toUInt32 >>> ((8 : Int32).toUInt32 &&& Int32.toUInt32 31)).toInt32)) + ((((((((l0 - (((l0.toUInt32 >>> ((1 : Int32).toUInt32 &&& Int32.toUInt32 31)).toInt32) &&& 1431655765)) &&& 858993459) + ((((l0 - (((l0.toUInt32 >>> ((1 : Int32).toUInt32 &&& Int32.toUInt32 31)).toInt32) &&& 1431655765)).toUInt32 >>> ((2 : Int32).toUInt32 &&& Int32.toUInt32 31)).toInt32) &&& 858993459)) + (((((l0 - (((l0.toUInt32 >>> ((1 : Int32).toUInt32 &&& Int32.toUInt32 31)).toInt32) &&& 1431655765)) &&& 858993459) + ((((l0 - (((l0.toUInt32 >>> ((1 : Int32).toUInt32 &&& Int32.toUInt32 31)).toInt32) &&& 1431655765)).toUInt32 >>> ((2 : Int32).toUInt32 &&& Int32.toUInt32 31)).toInt32) &&& 858993459)).toUInt32 >>> ((4 : Int32).toUInt32 &&& Int32.toUInt32 31)).toInt32)) &&& 252645135) + (((((((l0 - (((l0.toUInt32 >>> ((1 : Int32).toUInt32 &&& Int32.toUInt32 31)).toInt32) &&& 1431655765)) &&& 858993459) + ((((l0 - (((l0.toUInt32 >>> ((1 : Int32).toUInt32 &&& Int32.toUInt32 31)).toInt32) &&& 1431655765)).toUInt32 >>> ((2 : Int32).toUInt32 &&& Int32.toUInt32 31)).toInt32) &&& 858993459)) + (((((l0 - (((l0.toUInt32 >>> ((1 : Int32).toUInt32 &&& Int32.toUInt32 31)).toInt32) &&& 1431655765)) &&& 858993459) + ((((l0 - (((l0.toUInt32 >>> ((1 : Int32).toUInt32 &&& Int32.toUInt32 31)).toInt32) &&& 1431655765)).toUInt32 >>> ((2 : Int32).toUInt32 &&& Int32.toUInt32 31)).toInt32) &&& 858993459)).toUInt32 >>> ((4 : Int32).toUInt32 &&& Int32.toUInt32 31)).toInt32)) &&& 252645135).toUInt32 >>> ((8 : Int32).toUInt32 &&& Int32.toUInt32 31)).toInt32)).toUInt32 >>> ((16 : Int32).toUInt32 &&& Int32.toUInt32 31)).toInt32))] [.int ((((((((l0 - (((l0.toUInt32 >>> ((1 : Int32).toUInt32 &&& Int32.toUInt32 31)).toInt32) &&& 1431655765)) &&& 858993459) + ((((l0 - (((l0.toUInt32 >>> ((1 : Int32).toUInt32 &&& Int32.toUInt32 31)).toInt32) &&& 1431655765)).toUInt32 >>> ((2 : Int32).toUInt32 &&& Int32.toUInt32 31)).toInt32) &&& 858993459)) + (((((l0 - (((l0.toUInt32 >>> ((1 : Int32).toUInt32 &&& Int32.toUInt32 31)).toInt32) &&& 1431655765)) &&& 858993459) + ((((l0 - (((l0.toUInt32 >>> ((1 : Int32).toUInt32 &&& Int32.toUInt32 31)).toInt32) &&& 1431655765)).toUInt32 >>> ((2 : Int32).toUInt32 &&& Int32.toUInt32 31)).toInt32) &&& 858993459)).toUInt32 >>> ((4 : Int32).toUInt32 &&& Int32.toUInt32 31)).toInt32)) &&& 252645135) + (((((((l0 - (((l0.toUInt32 >>> ((1 : Int32).toUInt32 &&& Int32.toUInt32 31)).toInt32) &&& 1431655765)) &&& 858993459) + ((((l0 - (((l0.toUInt32 >>> ((1 : Int32).toUInt32 &&& Int32.toUInt32 31)).toInt32) &&& 1431655765)).toUInt32 >>> ((2 : Int32).toUInt32 &&& Int32.toUInt32 31)).toInt32) &&& 858993459)) + (((((l0 - (((l0.toUInt32 >>> ((1 : Int32).toUInt32 &&& Int32.toUInt32 31)).toInt32) &&& 1431655765)) &&& 858993459) + ((((l0 - (((l0.toUInt32 >>> ((1 : Int32).toUInt32 &&& Int32.toUInt32 31)).toInt32) &&& 1431655765)).toUInt32 >>> ((2 : Int32).toUInt32 &&& Int32.toUInt32 31)).toInt32) &&& 858993459)).toUInt32 >>> ((4 : Int32).toUInt32 &&& Int32.toUInt32 31)).toInt32)) &&& 252645135).toUInt32 >>> ((8 : Int32).toUInt32 &&& Int32.toUInt32 31)).toInt32)) + ((((((((l0 - (((l0.toUInt32 >>> ((1 : Int32).toUInt32 &&& Int32.toUInt32 31)).toInt32) &&& 1431655765)) &&& 858993459) + ((((l0 - (((l0.toUInt32 >>> ((1 : Int32).toUInt32 &&& Int32.toUInt32 31)).toInt32) &&& 1431655765)).toUInt32 >>> ((2 : Int32).toUInt32 &&& Int32.toUInt32 31)).toInt32) &&& 858993459)) + (((((l0 - (((l0.toUInt32 >>> ((1 : Int32).toUInt32 &&& Int32.toUInt32 31)).toInt32) &&& 1431655765)) &&& 858993459) + ((((l0 - (((l0.toUInt32 >>> ((1 : Int32).toUInt32 &&& Int32.toUInt32 31)).toInt32) &&& 1431655765)).toUInt32 >>> ((2 : Int32).toUInt32 &&& Int32.toUInt32 31)).toInt32) &&& 858993459)).toUInt32 >>> ((4 : Int32).toUInt32 &&& Int32.toUInt32 31)).toInt32)) &&& 252645135) + (((((((l0 - (((l0.toUInt32 >>> ((1 : Int32).toUInt32 &&& Int32.toUInt32 31)).toInt32) &&& 1431655765)) &&& 858993459) + ((((l0 - (((l0.toUInt32 >>> ((1 : Int32).toUInt32 &&& Int32.toUInt32 31)).toInt32) &&& 1431655765)).toUInt32 >>> ((2 : Int32).toUInt32 &&& Int32.toUInt32 31)).toInt32) &&& 858993459)) + (((((l0 - (((l0.toUInt32 >>> ((1 : Int32).toUInt32 &&& Int32.toUInt32 31)).toInt32) &&& 1431655765)) &&& 858993459) + ((((l0 - (((l0.toUInt32 >>> ((1 : Int32).toUInt32 &&& Int32.toUInt32 31)).toInt32) &&& 1431655765)).toUInt32 >>> ((2 : Int32).toUInt32 &&& Int32.toUInt32 31)).toInt32) &&& 858993459)).toUInt32 >>> ((4 : Int32).toUInt32 &&& Int32.toUInt32 31)).toInt32)) &&& 252645135).toUInt32 >>> ((8 : Int32).toUInt32 &&& Int32.toUInt32 31)).toInt32)).toUInt32 >>> ((16 : Int32).toUInt32 &&& Int32.toUInt32 31)).toInt32)) &&& 63)] rfl ?_
  cases h
  exact rn_ret rfl rfl rfl
/-- LastAsked.size(I)I -/
noncomputable def f112 (l0 : Nat) (l1 : Int32) (σ : xM) : Option (Int32 × xM) :=
  if l1 = 0 then
  (gR σ l0 7 2).bind fun r1 =>
  (gI σ r1 4 0).bind fun v2 =>
  some (v2, σ)
  else
  if l1 = 1 then
  (gR σ l0 7 1).bind fun r3 =>
  (gI σ r3 0 1).bind fun v4 =>
  some (v4, σ)
  else
  if l1 = 2 then
  (gR σ l0 7 1).bind fun r5 =>
  (gI σ r5 0 2).bind fun v6 =>
  some (v6, σ)
  else
  if l1 = 3 then
  (gR σ l0 7 1).bind fun r7 =>
  (gI σ r7 0 3).bind fun v8 =>
  some (v8, σ)
  else
  if l1 = 4 then
  (gR σ l0 7 1).bind fun r9 =>
  (gI σ r9 0 4).bind fun v10 =>
  some (v10, σ)
  else
  if l1 = 5 then
  (gR σ l0 7 1).bind fun r11 =>
  (gI σ r11 0 5).bind fun v12 =>
  some (v12, σ)
  else
  if l1 = 6 then
  (gR σ l0 7 1).bind fun r13 =>
  (gI σ r13 0 6).bind fun v14 =>
  some (v14, σ)
  else
  if l1 = 7 then
  (gR σ l0 7 2).bind fun r15 =>
  (gI σ r15 4 4).bind fun v16 =>
  (f273 v16 σ).bind fun y17 =>
  some (y17.1, y17.2)
  else
  if l1 = 8 then
  (gR σ l0 7 2).bind fun r18 =>
  (gI σ r18 4 2).bind fun v19 =>
  some (v19, σ)
  else
  if l1 = 9 then
  (gR σ l0 7 2).bind fun r20 =>
  (gI σ r20 4 1).bind fun v21 =>
  some (v21, σ)
  else
  if l1 = 10 then
  (gR σ l0 7 4).bind fun r22 =>
  (gI σ r22 2 0).bind fun v23 =>
  some (v23, σ)
  else
  if l1 = 11 then
  (gR σ l0 7 4).bind fun r24 =>
  (gI σ r24 2 1).bind fun v25 =>
  some (v25, σ)
  else
  if l1 = 12 then
  (gR σ l0 7 0).bind fun r26 =>
  (gI σ r26 3 0).bind fun v27 =>
  some (v27, σ)
  else
  some ((-1), σ)
set_option maxRecDepth 20000 in
set_option maxHeartbeats 1000000 in
theorem e112 (d : Nat) {l0 : Nat} {l1 : Int32} {σ : xM} {y : Int32 × xM} (h : f112 l0 l1 σ = some y) : Rn (d + 1) 112 0 [.ref l0, .int l1] [] σ (some (.int y.1), y.2) := by
  unfold f112 at h
  refine rn_steps 1 1 [.ref l0, .int l1] [.int l1] rfl ?_
  by_cases hb0 : l1 = 0
  · rw [if_pos hb0] at h
    rw [hb0]
    refine rn_steps 1 68 [.ref l0, .int 0] [] rfl ?_
    refine rn_steps 1 69 [.ref l0, .int 0] [.ref l0] rfl ?_
    obtain ⟨r1, hr1, h⟩ := Option.bind_eq_some_iff.mp h
    refine rn_gR (c := 7) (f := 2) rfl rfl ⟨⟨rfl, rfl⟩, rfl⟩ hr1 ?_
    refine rn_steps 0 72 [.ref l0, .int 0] [.ref r1] rfl ?_
    obtain ⟨v2, hv2, h⟩ := Option.bind_eq_some_iff.mp h
    refine rn_gI (c := 4) (f := 0) rfl rfl ⟨⟨rfl, rfl⟩, Or.inl rfl⟩ hv2 ?_
    refine rn_steps 0 75 [.ref l0, .int 0] [.int v2] rfl ?_
    cases h
    exact rn_ret rfl rfl rfl
  · rw [if_neg hb0] at h
    by_cases hb1 : l1 = 1
    · rw [if_pos hb1] at h
      rw [hb1]
      refine rn_steps 1 76 [.ref l0, .int 1] [] rfl ?_
      refine rn_steps 1 77 [.ref l0, .int 1] [.ref l0] rfl ?_
      obtain ⟨r3, hr3, h⟩ := Option.bind_eq_some_iff.mp h
      refine rn_gR (c := 7) (f := 1) rfl rfl ⟨⟨rfl, rfl⟩, rfl⟩ hr3 ?_
      refine rn_steps 0 80 [.ref l0, .int 1] [.ref r3] rfl ?_
      obtain ⟨v4, hv4, h⟩ := Option.bind_eq_some_iff.mp h
      refine rn_gI (c := 0) (f := 1) rfl rfl ⟨⟨rfl, rfl⟩, Or.inl rfl⟩ hv4 ?_
      refine rn_steps 0 83 [.ref l0, .int 1] [.int v4] rfl ?_
      cases h
      exact rn_ret rfl rfl rfl
    · rw [if_neg hb1] at h
      by_cases hb2 : l1 = 2
      · rw [if_pos hb2] at h
        rw [hb2]
        refine rn_steps 1 84 [.ref l0, .int 2] [] rfl ?_
        refine rn_steps 1 85 [.ref l0, .int 2] [.ref l0] rfl ?_
        obtain ⟨r5, hr5, h⟩ := Option.bind_eq_some_iff.mp h
        refine rn_gR (c := 7) (f := 1) rfl rfl ⟨⟨rfl, rfl⟩, rfl⟩ hr5 ?_
        refine rn_steps 0 88 [.ref l0, .int 2] [.ref r5] rfl ?_
        obtain ⟨v6, hv6, h⟩ := Option.bind_eq_some_iff.mp h
        refine rn_gI (c := 0) (f := 2) rfl rfl ⟨⟨rfl, rfl⟩, Or.inl rfl⟩ hv6 ?_
        refine rn_steps 0 91 [.ref l0, .int 2] [.int v6] rfl ?_
        cases h
        exact rn_ret rfl rfl rfl
      · rw [if_neg hb2] at h
        by_cases hb3 : l1 = 3
        · rw [if_pos hb3] at h
          rw [hb3]
          refine rn_steps 1 92 [.ref l0, .int 3] [] rfl ?_
          refine rn_steps 1 93 [.ref l0, .int 3] [.ref l0] rfl ?_
          obtain ⟨r7, hr7, h⟩ := Option.bind_eq_some_iff.mp h
          refine rn_gR (c := 7) (f := 1) rfl rfl ⟨⟨rfl, rfl⟩, rfl⟩ hr7 ?_
          refine rn_steps 0 96 [.ref l0, .int 3] [.ref r7] rfl ?_
          obtain ⟨v8, hv8, h⟩ := Option.bind_eq_some_iff.mp h
          refine rn_gI (c := 0) (f := 3) rfl rfl ⟨⟨rfl, rfl⟩, Or.inl rfl⟩ hv8 ?_
          refine rn_steps 0 99 [.ref l0, .int 3] [.int v8] rfl ?_
          cases h
          exact rn_ret rfl rfl rfl
        · rw [if_neg hb3] at h
          by_cases hb4 : l1 = 4
          · rw [if_pos hb4] at h
            rw [hb4]
            refine rn_steps 1 100 [.ref l0, .int 4] [] rfl ?_
            refine rn_steps 1 101 [.ref l0, .int 4] [.ref l0] rfl ?_
            obtain ⟨r9, hr9, h⟩ := Option.bind_eq_some_iff.mp h
            refine rn_gR (c := 7) (f := 1) rfl rfl ⟨⟨rfl, rfl⟩, rfl⟩ hr9 ?_
            refine rn_steps 0 104 [.ref l0, .int 4] [.ref r9] rfl ?_
            obtain ⟨v10, hv10, h⟩ := Option.bind_eq_some_iff.mp h
            refine rn_gI (c := 0) (f := 4) rfl rfl ⟨⟨rfl, rfl⟩, Or.inl rfl⟩ hv10 ?_
            refine rn_steps 0 107 [.ref l0, .int 4] [.int v10] rfl ?_
            cases h
            exact rn_ret rfl rfl rfl
          · rw [if_neg hb4] at h
            by_cases hb5 : l1 = 5
            · rw [if_pos hb5] at h
              rw [hb5]
              refine rn_steps 1 108 [.ref l0, .int 5] [] rfl ?_
              refine rn_steps 1 109 [.ref l0, .int 5] [.ref l0] rfl ?_
              obtain ⟨r11, hr11, h⟩ := Option.bind_eq_some_iff.mp h
              refine rn_gR (c := 7) (f := 1) rfl rfl ⟨⟨rfl, rfl⟩, rfl⟩ hr11 ?_
              refine rn_steps 0 112 [.ref l0, .int 5] [.ref r11] rfl ?_
              obtain ⟨v12, hv12, h⟩ := Option.bind_eq_some_iff.mp h
              refine rn_gI (c := 0) (f := 5) rfl rfl ⟨⟨rfl, rfl⟩, Or.inl rfl⟩ hv12 ?_
              refine rn_steps 0 115 [.ref l0, .int 5] [.int v12] rfl ?_
              cases h
              exact rn_ret rfl rfl rfl
            · rw [if_neg hb5] at h
              by_cases hb6 : l1 = 6
              · rw [if_pos hb6] at h
                rw [hb6]
                refine rn_steps 1 116 [.ref l0, .int 6] [] rfl ?_
                refine rn_steps 1 117 [.ref l0, .int 6] [.ref l0] rfl ?_
                obtain ⟨r13, hr13, h⟩ := Option.bind_eq_some_iff.mp h
                refine rn_gR (c := 7) (f := 1) rfl rfl ⟨⟨rfl, rfl⟩, rfl⟩ hr13 ?_
                refine rn_steps 0 120 [.ref l0, .int 6] [.ref r13] rfl ?_
                obtain ⟨v14, hv14, h⟩ := Option.bind_eq_some_iff.mp h
                refine rn_gI (c := 0) (f := 6) rfl rfl ⟨⟨rfl, rfl⟩, Or.inl rfl⟩ hv14 ?_
                refine rn_steps 0 123 [.ref l0, .int 6] [.int v14] rfl ?_
                cases h
                exact rn_ret rfl rfl rfl
              · rw [if_neg hb6] at h
                by_cases hb7 : l1 = 7
                · rw [if_pos hb7] at h
                  rw [hb7]
                  refine rn_steps 1 124 [.ref l0, .int 7] [] rfl ?_
                  refine rn_steps 1 125 [.ref l0, .int 7] [.ref l0] rfl ?_
                  obtain ⟨r15, hr15, h⟩ := Option.bind_eq_some_iff.mp h
                  refine rn_gR (c := 7) (f := 2) rfl rfl ⟨⟨rfl, rfl⟩, rfl⟩ hr15 ?_
                  refine rn_steps 0 128 [.ref l0, .int 7] [.ref r15] rfl ?_
                  obtain ⟨v16, hv16, h⟩ := Option.bind_eq_some_iff.mp h
                  refine rn_gI (c := 4) (f := 4) rfl rfl ⟨⟨rfl, rfl⟩, Or.inl rfl⟩ hv16 ?_
                  refine rn_steps 0 131 [.ref l0, .int 7] [.int v16] rfl ?_
                  obtain ⟨y17, hy17, h⟩ := Option.bind_eq_some_iff.mp h
                  refine rn_callS [.int v16] rfl rfl rfl ⟨rfl, rfl, rfl⟩ rfl rfl (e273 d hy17) ?_
                  refine rn_steps 0 134 [.ref l0, .int 7] [.int y17.1] rfl ?_
                  cases h
                  exact rn_ret rfl rfl rfl
                · rw [if_neg hb7] at h
                  by_cases hb8 : l1 = 8
                  · rw [if_pos hb8] at h
                    rw [hb8]
                    refine rn_steps 1 135 [.ref l0, .int 8] [] rfl ?_
                    refine rn_steps 1 136 [.ref l0, .int 8] [.ref l0] rfl ?_
                    obtain ⟨r18, hr18, h⟩ := Option.bind_eq_some_iff.mp h
                    refine rn_gR (c := 7) (f := 2) rfl rfl ⟨⟨rfl, rfl⟩, rfl⟩ hr18 ?_
                    refine rn_steps 0 139 [.ref l0, .int 8] [.ref r18] rfl ?_
                    obtain ⟨v19, hv19, h⟩ := Option.bind_eq_some_iff.mp h
                    refine rn_gI (c := 4) (f := 2) rfl rfl ⟨⟨rfl, rfl⟩, Or.inl rfl⟩ hv19 ?_
                    refine rn_steps 0 142 [.ref l0, .int 8] [.int v19] rfl ?_
                    cases h
                    exact rn_ret rfl rfl rfl
                  · rw [if_neg hb8] at h
                    by_cases hb9 : l1 = 9
                    · rw [if_pos hb9] at h
                      rw [hb9]
                      refine rn_steps 1 143 [.ref l0, .int 9] [] rfl ?_
                      refine rn_steps 1 144 [.ref l0, .int 9] [.ref l0] rfl ?_
                      obtain ⟨r20, hr20, h⟩ := Option.bind_eq_some_iff.mp h
                      refine rn_gR (c := 7) (f := 2) rfl rfl ⟨⟨rfl, rfl⟩, rfl⟩ hr20 ?_
                      refine rn_steps 0 147 [.ref l0, .int 9] [.ref r20] rfl ?_
                      obtain ⟨v21, hv21, h⟩ := Option.bind_eq_some_iff.mp h
                      refine rn_gI (c := 4) (f := 1) rfl rfl ⟨⟨rfl, rfl⟩, Or.inl rfl⟩ hv21 ?_
                      refine rn_steps 0 150 [.ref l0, .int 9] [.int v21] rfl ?_
                      cases h
                      exact rn_ret rfl rfl rfl
                    · rw [if_neg hb9] at h
                      by_cases hb10 : l1 = 10
                      · rw [if_pos hb10] at h
                        rw [hb10]
                        refine rn_steps 1 151 [.ref l0, .int 10] [] rfl ?_
                        refine rn_steps 1 152 [.ref l0, .int 10] [.ref l0] rfl ?_
                        obtain ⟨r22, hr22, h⟩ := Option.bind_eq_some_iff.mp h
                        refine rn_gR (c := 7) (f := 4) rfl rfl ⟨⟨rfl, rfl⟩, rfl⟩ hr22 ?_
                        refine rn_steps 0 155 [.ref l0, .int 10] [.ref r22] rfl ?_
                        obtain ⟨v23, hv23, h⟩ := Option.bind_eq_some_iff.mp h
                        refine rn_gI (c := 2) (f := 0) rfl rfl ⟨⟨rfl, rfl⟩, Or.inl rfl⟩ hv23 ?_
                        refine rn_steps 0 158 [.ref l0, .int 10] [.int v23] rfl ?_
                        cases h
                        exact rn_ret rfl rfl rfl
                      · rw [if_neg hb10] at h
                        by_cases hb11 : l1 = 11
                        · rw [if_pos hb11] at h
                          rw [hb11]
                          refine rn_steps 1 159 [.ref l0, .int 11] [] rfl ?_
                          refine rn_steps 1 160 [.ref l0, .int 11] [.ref l0] rfl ?_
                          obtain ⟨r24, hr24, h⟩ := Option.bind_eq_some_iff.mp h
                          refine rn_gR (c := 7) (f := 4) rfl rfl ⟨⟨rfl, rfl⟩, rfl⟩ hr24 ?_
                          refine rn_steps 0 163 [.ref l0, .int 11] [.ref r24] rfl ?_
                          obtain ⟨v25, hv25, h⟩ := Option.bind_eq_some_iff.mp h
                          refine rn_gI (c := 2) (f := 1) rfl rfl ⟨⟨rfl, rfl⟩, Or.inl rfl⟩ hv25 ?_
                          refine rn_steps 0 166 [.ref l0, .int 11] [.int v25] rfl ?_
                          cases h
                          exact rn_ret rfl rfl rfl
                        · rw [if_neg hb11] at h
                          by_cases hb12 : l1 = 12
                          · rw [if_pos hb12] at h
                            rw [hb12]
                            refine rn_steps 1 167 [.ref l0, .int 12] [] rfl ?_
                            refine rn_steps 1 168 [.ref l0, .int 12] [.ref l0] rfl ?_
                            obtain ⟨r26, hr26, h⟩ := Option.bind_eq_some_iff.mp h
                            refine rn_gR (c := 7) (f := 0) rfl rfl ⟨⟨rfl, rfl⟩, rfl⟩ hr26 ?_
                            refine rn_steps 0 171 [.ref l0, .int 12] [.ref r26] rfl ?_
                            obtain ⟨v27, hv27, h⟩ := Option.bind_eq_some_iff.mp h
                            refine rn_gI (c := 3) (f := 0) rfl rfl ⟨⟨rfl, rfl⟩, Or.inl rfl⟩ hv27 ?_
                            refine rn_steps 0 174 [.ref l0, .int 12] [.int v27] rfl ?_
                            cases h
                            exact rn_ret rfl rfl rfl
                          · rw [if_neg hb12] at h
                            have hx : l1.toInt < 0 ∨ (12 : Int) < l1.toInt := xout (x := l1) (N := 12) (fun j hj => by rcases (show j = 0 ∨ j = 1 ∨ j = 2 ∨ j = 3 ∨ j = 4 ∨ j = 5 ∨ j = 6 ∨ j = 7 ∨ j = 8 ∨ j = 9 ∨ j = 10 ∨ j = 11 ∨ j = 12 by omega) with rfl | rfl | rfl | rfl | rfl | rfl | rfl | rfl | rfl | rfl | rfl | rfl | rfl <;> first | exact hb0 | exact hb1 | exact hb2 | exact hb3 | exact hb4 | exact hb5 | exact hb6 | exact hb7 | exact hb8 | exact hb9 | exact hb10 | exact hb11 | exact hb12)
                            refine rn_tbl rfl rfl hx ?_
                            refine rn_steps 1 176 [.ref l0, .int l1] [.int (-1)] rfl ?_
                            cases h
                            exact rn_ret rfl rfl rfl
/-- LastAsked.trouble()I -/
noncomputable def f113 (l0 : Nat) (σ : xM) : Option (Int32 × xM) :=
  (gI σ l0 7 8).bind fun v1 =>
  some (v1, σ)
set_option maxRecDepth 20000 in
set_option maxHeartbeats 1000000 in
theorem e113 (d : Nat) {l0 : Nat} {σ : xM} {y : Int32 × xM} (h : f113 l0 σ = some y) : Rn (d + 0) 113 0 [.ref l0] [] σ (some (.int y.1), y.2) := by
  unfold f113 at h
  refine rn_steps 1 1 [.ref l0] [.ref l0] rfl ?_
  obtain ⟨v1, hv1, h⟩ := Option.bind_eq_some_iff.mp h
  refine rn_gI (c := 7) (f := 8) rfl rfl ⟨⟨rfl, rfl⟩, Or.inl rfl⟩ hv1 ?_
  refine rn_steps 0 4 [.ref l0] [.int v1] rfl ?_
  cases h
  exact rn_ret rfl rfl rfl
noncomputable def f146_128 (σ : xM) : Option xM :=
  some σ
set_option maxRecDepth 20000 in
set_option maxHeartbeats 1000000 in
theorem e146_128 (d : Nat) (x0 x1 : Value) (σ : xM) (y : xM) (h : f146_128 σ = some y) : Rn (d + 1) 146 128 [x0, x1] [] σ (none, y) := by
  unfold f146_128 at h
  cases h
  exact rn_ret rfl rfl rfl
noncomputable def f146_109 : Nat → Nat → Int32 → xM → Option xM
  | 0, _, _, _ => none
  | n + 1, l0, l1, σ =>
    if 6 ≤ l1 then
    f146_128 σ
    else
    (gR σ l0 8 11).bind fun r1 =>
    (tI σ r1 l1 (-1)).bind fun σ2 =>
    (f146_109 n) l0 (l1 + 1) σ2
set_option maxRecDepth 20000 in
set_option maxHeartbeats 1000000 in
theorem e146_109 (d : Nat) : ∀ (n : Nat) (l0 : Nat) (l1 : Int32) (σ : xM) (y : xM), f146_109 n l0 l1 σ = some y → Rn (d + 1) 146 109 [.ref l0, .int l1] [] σ (none, y) := by
  intro n
  induction n with
  | zero => intro l0 l1 σ y h; cases h
  | succ n ih =>
    intro l0 l1 σ y h
    unfold f146_109 at h
    refine rn_steps 2 112 [.ref l0, .int l1] [.int 6, .int l1] rfl ?_
    refine rn_br (c := 6 ≤ l1) rfl rfl decide_eq_true_iff (fun hb => ?_) (fun hb => ?_)
    · rw [if_pos hb] at h
      refine rn_steps 0 128 [.ref l0, .int l1] [] rfl ?_
      exact e146_128 d _ _ _ _ h
    · rw [if_neg hb] at h
      refine rn_steps 1 116 [.ref l0, .int l1] [.ref l0] rfl ?_
      obtain ⟨r1, hr1, h⟩ := Option.bind_eq_some_iff.mp h
      refine rn_gR (c := 8) (f := 11) rfl rfl ⟨⟨rfl, rfl⟩, rfl⟩ hr1 ?_
      refine rn_steps 2 121 [.ref l0, .int l1] [.int (-1), .int l1, .ref r1] rfl ?_
      obtain ⟨σ2, hσ2, h⟩ := Option.bind_eq_some_iff.mp h
      refine rn_tI rfl hσ2 ?_
      refine rn_steps 2 109 [.ref l0, .int (l1 + 1)] [] rfl ?_
      exact ih _ _ _ _ h
noncomputable def f146_107 (l0 : Nat) (σ : xM) : Option xM :=
  f146_109 1100 l0 0 σ
set_option maxRecDepth 20000 in
set_option maxHeartbeats 1000000 in
theorem e146_107 (d : Nat) (l0 : Nat) (x1 : Value) (σ : xM) (y : xM) (h : f146_107 l0 σ = some y) : Rn (d + 1) 146 107 [.ref l0, x1] [] σ (none, y) := by
  unfold f146_107 at h
  refine rn_steps 2 109 [.ref l0, .int 0] [] rfl ?_
  exact e146_109 d 1100 _ _ _ _ h
noncomputable def f146_88 : Nat → Nat → Int32 → xM → Option xM
  | 0, _, _, _ => none
  | n + 1, l0, l1, σ =>
    if 36 ≤ l1 then
    f146_107 l0 σ
    else
    (gR σ l0 8 12).bind fun r1 =>
    (tI σ r1 l1 (-1)).bind fun σ2 =>
    (f146_88 n) l0 (l1 + 1) σ2
set_option maxRecDepth 20000 in
set_option maxHeartbeats 1000000 in
theorem e146_88 (d : Nat) : ∀ (n : Nat) (l0 : Nat) (l1 : Int32) (σ : xM) (y : xM), f146_88 n l0 l1 σ = some y → Rn (d + 1) 146 88 [.ref l0, .int l1] [] σ (none, y) := by
  intro n
  induction n with
  | zero => intro l0 l1 σ y h; cases h
  | succ n ih =>
    intro l0 l1 σ y h
    unfold f146_88 at h
    refine rn_steps 2 91 [.ref l0, .int l1] [.int 36, .int l1] rfl ?_
    refine rn_br (c := 36 ≤ l1) rfl rfl decide_eq_true_iff (fun hb => ?_) (fun hb => ?_)
    · rw [if_pos hb] at h
      refine rn_steps 0 107 [.ref l0, .int l1] [] rfl ?_
      exact e146_107 d _ _ _ _ h
    · rw [if_neg hb] at h
      refine rn_steps 1 95 [.ref l0, .int l1] [.ref l0] rfl ?_
      obtain ⟨r1, hr1, h⟩ := Option.bind_eq_some_iff.mp h
      refine rn_gR (c := 8) (f := 12) rfl rfl ⟨⟨rfl, rfl⟩, rfl⟩ hr1 ?_
      refine rn_steps 2 100 [.ref l0, .int l1] [.int (-1), .int l1, .ref r1] rfl ?_
      obtain ⟨σ2, hσ2, h⟩ := Option.bind_eq_some_iff.mp h
      refine rn_tI rfl hσ2 ?_
      refine rn_steps 2 88 [.ref l0, .int (l1 + 1)] [] rfl ?_
      exact ih _ _ _ _ h
/-- LastAskedModel$City.<init>()V -/
noncomputable def f146 (l0 : Nat) (σ : xM) : Option xM :=
  (pI σ l0 8 0 (-1)).bind fun σ1 =>
  (nA σ1 11 6).bind fun σ2 =>
  (pR σ2 l0 8 7 (mN σ1)).bind fun σ3 =>
  (nA σ3 11 6).bind fun σ4 =>
  (pR σ4 l0 8 8 (mN σ3)).bind fun σ5 =>
  (nA σ5 11 6).bind fun σ6 =>
  (pR σ6 l0 8 9 (mN σ5)).bind fun σ7 =>
  (nA σ7 11 6).bind fun σ8 =>
  (pR σ8 l0 8 10 (mN σ7)).bind fun σ9 =>
  (nA σ9 11 6).bind fun σ10 =>
  (pR σ10 l0 8 11 (mN σ9)).bind fun σ11 =>
  (nA σ11 11 36).bind fun σ12 =>
  (pR σ12 l0 8 12 (mN σ11)).bind fun σ13 =>
  (nA σ13 11 3).bind fun σ14 =>
  (pR σ14 l0 8 13 (mN σ13)).bind fun σ15 =>
  (nA σ15 11 3).bind fun σ16 =>
  (pR σ16 l0 8 14 (mN σ15)).bind fun σ17 =>
  (nA σ17 11 3).bind fun σ18 =>
  (pR σ18 l0 8 15 (mN σ17)).bind fun σ19 =>
  (nA σ19 12 6).bind fun σ20 =>
  (pR σ20 l0 8 16 (mN σ19)).bind fun σ21 =>
  f146_88 1100 l0 0 σ21
set_option maxRecDepth 20000 in
set_option maxHeartbeats 1000000 in
theorem e146 (d : Nat) {l0 : Nat} {σ : xM} {y : xM} (h : f146 l0 σ = some y) : Rn (d + 1) 146 0 [.ref l0, .retAddr 0] [] σ (none, y) := by
  unfold f146 at h
  refine rn_steps 4 6 [.ref l0, .retAddr 0] [.int (-1), .ref l0] rfl ?_
  obtain ⟨σ1, hσ1, h⟩ := Option.bind_eq_some_iff.mp h
  refine rn_pI (c := 8) (f := 0) rfl rfl ⟨⟨rfl, rfl⟩, rfl⟩ hσ1 ?_
  refine rn_steps 2 12 [.ref l0, .retAddr 0] [.int 6, .ref l0] rfl ?_
  obtain ⟨σ2, hσ2, h⟩ := Option.bind_eq_some_iff.mp h
  refine rn_nA rfl hσ2 ?_
  refine rn_steps 0 14 [.ref l0, .retAddr 0] [.ref (mN σ1), .ref l0] rfl ?_
  obtain ⟨σ3, hσ3, h⟩ := Option.bind_eq_some_iff.mp h
  refine rn_pR (c := 8) (f := 7) rfl rfl ⟨⟨rfl, rfl⟩, rfl⟩ hσ3 ?_
  refine rn_steps 2 20 [.ref l0, .retAddr 0] [.int 6, .ref l0] rfl ?_
  obtain ⟨σ4, hσ4, h⟩ := Option.bind_eq_some_iff.mp h
  refine rn_nA rfl hσ4 ?_
  refine rn_steps 0 22 [.ref l0, .retAddr 0] [.ref (mN σ3), .ref l0] rfl ?_
  obtain ⟨σ5, hσ5, h⟩ := Option.bind_eq_some_iff.mp h
  refine rn_pR (c := 8) (f := 8) rfl rfl ⟨⟨rfl, rfl⟩, rfl⟩ hσ5 ?_
  refine rn_steps 2 28 [.ref l0, .retAddr 0] [.int 6, .ref l0] rfl ?_
  obtain ⟨σ6, hσ6, h⟩ := Option.bind_eq_some_iff.mp h
  refine rn_nA rfl hσ6 ?_
  refine rn_steps 0 30 [.ref l0, .retAddr 0] [.ref (mN σ5), .ref l0] rfl ?_
  obtain ⟨σ7, hσ7, h⟩ := Option.bind_eq_some_iff.mp h
  refine rn_pR (c := 8) (f := 9) rfl rfl ⟨⟨rfl, rfl⟩, rfl⟩ hσ7 ?_
  refine rn_steps 2 36 [.ref l0, .retAddr 0] [.int 6, .ref l0] rfl ?_
  obtain ⟨σ8, hσ8, h⟩ := Option.bind_eq_some_iff.mp h
  refine rn_nA rfl hσ8 ?_
  refine rn_steps 0 38 [.ref l0, .retAddr 0] [.ref (mN σ7), .ref l0] rfl ?_
  obtain ⟨σ9, hσ9, h⟩ := Option.bind_eq_some_iff.mp h
  refine rn_pR (c := 8) (f := 10) rfl rfl ⟨⟨rfl, rfl⟩, rfl⟩ hσ9 ?_
  refine rn_steps 2 44 [.ref l0, .retAddr 0] [.int 6, .ref l0] rfl ?_
  obtain ⟨σ10, hσ10, h⟩ := Option.bind_eq_some_iff.mp h
  refine rn_nA rfl hσ10 ?_
  refine rn_steps 0 46 [.ref l0, .retAddr 0] [.ref (mN σ9), .ref l0] rfl ?_
  obtain ⟨σ11, hσ11, h⟩ := Option.bind_eq_some_iff.mp h
  refine rn_pR (c := 8) (f := 11) rfl rfl ⟨⟨rfl, rfl⟩, rfl⟩ hσ11 ?_
  refine rn_steps 2 52 [.ref l0, .retAddr 0] [.int 36, .ref l0] rfl ?_
  obtain ⟨σ12, hσ12, h⟩ := Option.bind_eq_some_iff.mp h
  refine rn_nA rfl hσ12 ?_
  refine rn_steps 0 54 [.ref l0, .retAddr 0] [.ref (mN σ11), .ref l0] rfl ?_
  obtain ⟨σ13, hσ13, h⟩ := Option.bind_eq_some_iff.mp h
  refine rn_pR (c := 8) (f := 12) rfl rfl ⟨⟨rfl, rfl⟩, rfl⟩ hσ13 ?_
  refine rn_steps 2 59 [.ref l0, .retAddr 0] [.int 3, .ref l0] rfl ?_
  obtain ⟨σ14, hσ14, h⟩ := Option.bind_eq_some_iff.mp h
  refine rn_nA rfl hσ14 ?_
  refine rn_steps 0 61 [.ref l0, .retAddr 0] [.ref (mN σ13), .ref l0] rfl ?_
  obtain ⟨σ15, hσ15, h⟩ := Option.bind_eq_some_iff.mp h
  refine rn_pR (c := 8) (f := 13) rfl rfl ⟨⟨rfl, rfl⟩, rfl⟩ hσ15 ?_
  refine rn_steps 2 66 [.ref l0, .retAddr 0] [.int 3, .ref l0] rfl ?_
  obtain ⟨σ16, hσ16, h⟩ := Option.bind_eq_some_iff.mp h
  refine rn_nA rfl hσ16 ?_
  refine rn_steps 0 68 [.ref l0, .retAddr 0] [.ref (mN σ15), .ref l0] rfl ?_
  obtain ⟨σ17, hσ17, h⟩ := Option.bind_eq_some_iff.mp h
  refine rn_pR (c := 8) (f := 14) rfl rfl ⟨⟨rfl, rfl⟩, rfl⟩ hσ17 ?_
  refine rn_steps 2 73 [.ref l0, .retAddr 0] [.int 3, .ref l0] rfl ?_
  obtain ⟨σ18, hσ18, h⟩ := Option.bind_eq_some_iff.mp h
  refine rn_nA rfl hσ18 ?_
  refine rn_steps 0 75 [.ref l0, .retAddr 0] [.ref (mN σ17), .ref l0] rfl ?_
  obtain ⟨σ19, hσ19, h⟩ := Option.bind_eq_some_iff.mp h
  refine rn_pR (c := 8) (f := 15) rfl rfl ⟨⟨rfl, rfl⟩, rfl⟩ hσ19 ?_
  refine rn_steps 2 81 [.ref l0, .retAddr 0] [.int 6, .ref l0] rfl ?_
  obtain ⟨σ20, hσ20, h⟩ := Option.bind_eq_some_iff.mp h
  refine rn_nA rfl hσ20 ?_
  refine rn_steps 0 83 [.ref l0, .retAddr 0] [.ref (mN σ19), .ref l0] rfl ?_
  obtain ⟨σ21, hσ21, h⟩ := Option.bind_eq_some_iff.mp h
  refine rn_pR (c := 8) (f := 16) rfl rfl ⟨⟨rfl, rfl⟩, rfl⟩ hσ21 ?_
  refine rn_steps 2 88 [.ref l0, .int 0] [] rfl ?_
  exact e146_88 d 1100 _ _ _ _ h
noncomputable def f147_29 (σ : xM) : Option (Int32 × xM) :=
  some ((-1), σ)
set_option maxRecDepth 20000 in
set_option maxHeartbeats 1000000 in
theorem e147_29 (d : Nat) (x0 x1 x2 x3 : Value) (σ : xM) (y : Int32 × xM) (h : f147_29 σ = some y) : Rn (d + 0) 147 29 [x0, x1, x2, x3] [] σ (some (.int y.1), y.2) := by
  unfold f147_29 at h
  refine rn_steps 1 30 [x0, x1, x2, x3] [.int (-1)] rfl ?_
  cases h
  exact rn_ret rfl rfl rfl
noncomputable def f147_2 : Nat → Nat → Int64 → Int32 → xM → Option (Int32 × xM)
  | 0, _, _, _, _ => none
  | n + 1, l0, l1, l3, σ =>
    (gI σ l0 8 2).bind fun v1 =>
    if v1 ≤ l3 then
    f147_29 σ
    else
    (gR σ l0 8 16).bind fun r2 =>
    (aJ σ r2 l3).bind fun v3 =>
    if (lg_cmp v3 l1) = 0 then
    some (l3, σ)
    else
    (f147_2 n) l0 l1 (l3 + 1) σ
set_option maxRecDepth 20000 in
set_option maxHeartbeats 1000000 in
theorem e147_2 (d : Nat) : ∀ (n : Nat) (l0 : Nat) (l1 : Int64) (l3 : Int32) (σ : xM) (y : Int32 × xM), f147_2 n l0 l1 l3 σ = some y → Rn (d + 0) 147 2 [.ref l0, .long l1, .retAddr 1, .int l3] [] σ (some (.int y.1), y.2) := by
  intro n
  induction n with
  | zero => intro l0 l1 l3 σ y h; cases h
  | succ n ih =>
    intro l0 l1 l3 σ y h
    unfold f147_2 at h
    refine rn_steps 2 4 [.ref l0, .long l1, .retAddr 1, .int l3] [.ref l0, .int l3] rfl ?_
    obtain ⟨v1, hv1, h⟩ := Option.bind_eq_some_iff.mp h
    refine rn_gI (c := 8) (f := 2) rfl rfl ⟨⟨rfl, rfl⟩, Or.inl rfl⟩ hv1 ?_
    refine rn_steps 0 7 [.ref l0, .long l1, .retAddr 1, .int l3] [.int v1, .int l3] rfl ?_
    refine rn_br (c := v1 ≤ l3) rfl rfl decide_eq_true_iff (fun hb => ?_) (fun hb => ?_)
    · rw [if_pos hb] at h
      refine rn_steps 0 29 [.ref l0, .long l1, .retAddr 1, .int l3] [] rfl ?_
      exact e147_29 d _ _ _ _ _ _ h
    · rw [if_neg hb] at h
      refine rn_steps 1 11 [.ref l0, .long l1, .retAddr 1, .int l3] [.ref l0] rfl ?_
      obtain ⟨r2, hr2, h⟩ := Option.bind_eq_some_iff.mp h
      refine rn_gR (c := 8) (f := 16) rfl rfl ⟨⟨rfl, rfl⟩, rfl⟩ hr2 ?_
      refine rn_steps 1 15 [.ref l0, .long l1, .retAddr 1, .int l3] [.int l3, .ref r2] rfl ?_
      obtain ⟨v3, hv3, h⟩ := Option.bind_eq_some_iff.mp h
      refine rn_aJ rfl hv3 ?_
      refine rn_steps 2 18 [.ref l0, .long l1, .retAddr 1, .int l3] [.int (lg_cmp v3 l1)] rfl ?_
      refine rn_br (c := ¬ (lg_cmp v3 l1) = 0) rfl rfl decide_eq_true_iff (fun hb => ?_) (fun hb => ?_)
      · rw [if_neg hb] at h
        refine rn_steps 2 2 [.ref l0, .long l1, .retAddr 1, .int (l3 + 1)] [] rfl ?_
        exact ih _ _ _ _ _ h
      · rw [if_pos (Decidable.not_not.mp hb)] at h
        refine rn_steps 1 22 [.ref l0, .long l1, .retAddr 1, .int l3] [.int l3] rfl ?_
        cases h
        exact rn_ret rfl rfl rfl
/-- LastAskedModel$City.find(J)I -/
noncomputable def f147 (l0 : Nat) (l1 : Int64) (σ : xM) : Option (Int32 × xM) :=
  f147_2 1100 l0 l1 0 σ
set_option maxRecDepth 20000 in
set_option maxHeartbeats 1000000 in
theorem e147 (d : Nat) {l0 : Nat} {l1 : Int64} {σ : xM} {y : Int32 × xM} (h : f147 l0 l1 σ = some y) : Rn (d + 0) 147 0 [.ref l0, .long l1, .retAddr 1, .retAddr 0] [] σ (some (.int y.1), y.2) := by
  unfold f147 at h
  refine rn_steps 2 2 [.ref l0, .long l1, .retAddr 1, .int 0] [] rfl ?_
  exact e147_2 d 1100 _ _ _ _ _ h
noncomputable def f157_14 (s0 : Int32) (σ : xM) : Option (Int32 × xM) :=
  rZ s0 σ
set_option maxRecDepth 20000 in
set_option maxHeartbeats 1000000 in
theorem e157_14 (d : Nat) (s0 : Int32) (x0 x1 : Value) (σ : xM) (y : Int32 × xM) (h : f157_14 s0 σ = some y) : Rn (d + 0) 157 14 [x0, x1] [.int s0] σ (some (.int y.1), y.2) := by
  unfold f157_14 at h
  exact rn_retZ rfl rfl h
/-- LastAskedModel.bit(II)Z -/
noncomputable def f157 (l0 : Int32) (l1 : Int32) (σ : xM) : Option (Int32 × xM) :=
  if ((l0 >>> (l1 &&& 31)) &&& 1) = 1 then
  f157_14 1 σ
  else
  f157_14 0 σ
set_option maxRecDepth 20000 in
set_option maxHeartbeats 1000000 in
theorem e157 (d : Nat) {l0 : Int32} {l1 : Int32} {σ : xM} {y : Int32 × xM} (h : f157 l0 l1 σ = some y) : Rn (d + 0) 157 0 [.int l0, .int l1] [] σ (some (.int y.1), y.2) := by
  unfold f157 at h
  refine rn_steps 6 6 [.int l0, .int l1] [.int 1, .int ((l0 >>> (l1 &&& 31)) &&& 1)] rfl ?_
  refine rn_br (c := ¬ ((l0 >>> (l1 &&& 31)) &&& 1) = 1) rfl rfl decide_eq_true_iff (fun hb => ?_) (fun hb => ?_)
  · rw [if_neg hb] at h
    refine rn_steps 1 14 [.int l0, .int l1] [.int 0] rfl ?_
    exact e157_14 d _ _ _ _ _ h
  · rw [if_pos (Decidable.not_not.mp hb)] at h
    refine rn_steps 2 14 [.int l0, .int l1] [.int 1] rfl ?_
    exact e157_14 d _ _ _ _ _ h
noncomputable def f148_48 (s0 : Int32) (σ : xM) : Option (Int32 × xM) :=
  rZ s0 σ
set_option maxRecDepth 20000 in
set_option maxHeartbeats 1000000 in
theorem e148_48 (d : Nat) (s0 : Int32) (x0 x1 x2 : Value) (σ : xM) (y : Int32 × xM) (h : f148_48 s0 σ = some y) : Rn (d + 1) 148 48 [x0, x1, x2] [.int s0] σ (some (.int y.1), y.2) := by
  unfold f148_48 at h
  exact rn_retZ rfl rfl h
noncomputable def f148_47 (σ : xM) : Option (Int32 × xM) :=
  f148_48 0 σ
set_option maxRecDepth 20000 in
set_option maxHeartbeats 1000000 in
theorem e148_47 (d : Nat) (x0 x1 x2 : Value) (σ : xM) (y : Int32 × xM) (h : f148_47 σ = some y) : Rn (d + 1) 148 47 [x0, x1, x2] [] σ (some (.int y.1), y.2) := by
  unfold f148_47 at h
  refine rn_steps 1 48 [x0, x1, x2] [.int 0] rfl ?_
  exact e148_48 d _ _ _ _ _ _ h
noncomputable def f148_43 (σ : xM) : Option (Int32 × xM) :=
  f148_48 1 σ
set_option maxRecDepth 20000 in
set_option maxHeartbeats 1000000 in
theorem e148_43 (d : Nat) (x0 x1 x2 : Value) (σ : xM) (y : Int32 × xM) (h : f148_43 σ = some y) : Rn (d + 1) 148 43 [x0, x1, x2] [] σ (some (.int y.1), y.2) := by
  unfold f148_43 at h
  refine rn_steps 2 48 [x0, x1, x2] [.int 1] rfl ?_
  exact e148_48 d _ _ _ _ _ _ h
/-- LastAskedModel$City.mayAsk(II)Z -/
noncomputable def f148 (l0 : Nat) (l1 : Int32) (l2 : Int32) (σ : xM) : Option (Int32 × xM) :=
  (gR σ l0 8 7).bind fun r1 =>
  (aI σ r1 l1).bind fun v2 =>
  if v2 = 3 then
  f148_47 σ
  else
  (gR σ l0 8 7).bind fun r3 =>
  (aI σ r3 l2).bind fun v4 =>
  if v4 = 1 then
  f148_47 σ
  else
  (gR σ l0 8 7).bind fun r5 =>
  (aI σ r5 l2).bind fun v6 =>
  if v6 = 2 then
  (gR σ l0 8 10).bind fun r7 =>
  (aI σ r7 l2).bind fun v8 =>
  (f157 v8 l1 σ).bind fun y9 =>
  if y9.1 = 0 then
  f148_47 y9.2
  else
  f148_43 y9.2
  else
  f148_43 σ
set_option maxRecDepth 20000 in
set_option maxHeartbeats 1000000 in
theorem e148 (d : Nat) {l0 : Nat} {l1 : Int32} {l2 : Int32} {σ : xM} {y : Int32 × xM} (h : f148 l0 l1 l2 σ = some y) : Rn (d + 1) 148 0 [.ref l0, .int l1, .int l2] [] σ (some (.int y.1), y.2) := by
  unfold f148 at h
  refine rn_steps 1 1 [.ref l0, .int l1, .int l2] [.ref l0] rfl ?_
  obtain ⟨r1, hr1, h⟩ := Option.bind_eq_some_iff.mp h
  refine rn_gR (c := 8) (f := 7) rfl rfl ⟨⟨rfl, rfl⟩, rfl⟩ hr1 ?_
  refine rn_steps 1 5 [.ref l0, .int l1, .int l2] [.int l1, .ref r1] rfl ?_
  obtain ⟨v2, hv2, h⟩ := Option.bind_eq_some_iff.mp h
  refine rn_aI rfl hv2 ?_
  refine rn_steps 1 7 [.ref l0, .int l1, .int l2] [.int 3, .int v2] rfl ?_
  refine rn_br (c := v2 = 3) rfl rfl decide_eq_true_iff (fun hb => ?_) (fun hb => ?_)
  · rw [if_pos hb] at h
    refine rn_steps 0 47 [.ref l0, .int l1, .int l2] [] rfl ?_
    exact e148_47 d _ _ _ _ _ h
  · rw [if_neg hb] at h
    refine rn_steps 1 11 [.ref l0, .int l1, .int l2] [.ref l0] rfl ?_
    obtain ⟨r3, hr3, h⟩ := Option.bind_eq_some_iff.mp h
    refine rn_gR (c := 8) (f := 7) rfl rfl ⟨⟨rfl, rfl⟩, rfl⟩ hr3 ?_
    refine rn_steps 1 15 [.ref l0, .int l1, .int l2] [.int l2, .ref r3] rfl ?_
    obtain ⟨v4, hv4, h⟩ := Option.bind_eq_some_iff.mp h
    refine rn_aI rfl hv4 ?_
    refine rn_steps 1 17 [.ref l0, .int l1, .int l2] [.int 1, .int v4] rfl ?_
    refine rn_br (c := v4 = 1) rfl rfl decide_eq_true_iff (fun hb => ?_) (fun hb => ?_)
    · rw [if_pos hb] at h
      refine rn_steps 0 47 [.ref l0, .int l1, .int l2] [] rfl ?_
      exact e148_47 d _ _ _ _ _ h
    · rw [if_neg hb] at h
      refine rn_steps 1 21 [.ref l0, .int l1, .int l2] [.ref l0] rfl ?_
      obtain ⟨r5, hr5, h⟩ := Option.bind_eq_some_iff.mp h
      refine rn_gR (c := 8) (f := 7) rfl rfl ⟨⟨rfl, rfl⟩, rfl⟩ hr5 ?_
      refine rn_steps 1 25 [.ref l0, .int l1, .int l2] [.int l2, .ref r5] rfl ?_
      obtain ⟨v6, hv6, h⟩ := Option.bind_eq_some_iff.mp h
      refine rn_aI rfl hv6 ?_
      refine rn_steps 1 27 [.ref l0, .int l1, .int l2] [.int 2, .int v6] rfl ?_
      refine rn_br (c := ¬ v6 = 2) rfl rfl decide_eq_true_iff (fun hb => ?_) (fun hb => ?_)
      · rw [if_neg hb] at h
        refine rn_steps 0 43 [.ref l0, .int l1, .int l2] [] rfl ?_
        exact e148_43 d _ _ _ _ _ h
      · rw [if_pos (Decidable.not_not.mp hb)] at h
        refine rn_steps 1 31 [.ref l0, .int l1, .int l2] [.ref l0] rfl ?_
        obtain ⟨r7, hr7, h⟩ := Option.bind_eq_some_iff.mp h
        refine rn_gR (c := 8) (f := 10) rfl rfl ⟨⟨rfl, rfl⟩, rfl⟩ hr7 ?_
        refine rn_steps 1 35 [.ref l0, .int l1, .int l2] [.int l2, .ref r7] rfl ?_
        obtain ⟨v8, hv8, h⟩ := Option.bind_eq_some_iff.mp h
        refine rn_aI rfl hv8 ?_
        refine rn_steps 1 37 [.ref l0, .int l1, .int l2] [.int l1, .int v8] rfl ?_
        obtain ⟨y9, hy9, h⟩ := Option.bind_eq_some_iff.mp h
        refine rn_callS [.int v8, .int l1] rfl rfl rfl ⟨rfl, rfl, rfl⟩ rfl rfl (e157 d hy9) ?_
        refine rn_steps 0 40 [.ref l0, .int l1, .int l2] [.int y9.1] rfl ?_
        refine rn_br (c := y9.1 = 0) rfl rfl decide_eq_true_iff (fun hb => ?_) (fun hb => ?_)
        · rw [if_pos hb] at h
          refine rn_steps 0 47 [.ref l0, .int l1, .int l2] [] rfl ?_
          exact e148_47 d _ _ _ _ _ h
        · rw [if_neg hb] at h
          refine rn_steps 0 43 [.ref l0, .int l1, .int l2] [] rfl ?_
          exact e148_43 d _ _ _ _ _ h
/-- LastAskedModel.<init>()V -/
noncomputable def f149 (l0 : Nat) (σ : xM) : Option xM :=
  (pI σ l0 9 2 (-1)).bind fun σ1 =>
  (nA σ1 10 900).bind fun σ2 =>
  (pR σ2 l0 9 5 (mN σ1)).bind fun σ3 =>
  (nA σ3 11 47).bind fun σ4 =>
  (pR σ4 l0 9 16 (mN σ3)).bind fun σ5 =>
  (nA σ5 11 47).bind fun σ6 =>
  (pR σ6 l0 9 17 (mN σ5)).bind fun σ7 =>
  (nA σ7 11 752).bind fun σ8 =>
  (pR σ8 l0 9 18 (mN σ7)).bind fun σ9 =>
  (nA σ9 11 141).bind fun σ10 =>
  (pR σ10 l0 9 19 (mN σ9)).bind fun σ11 =>
  (nA σ11 11 6).bind fun σ12 =>
  (pR σ12 l0 9 22 (mN σ11)).bind fun σ13 =>
  (nA σ13 11 6).bind fun σ14 =>
  (pR σ14 l0 9 23 (mN σ13)).bind fun σ15 =>
  (nA σ15 11 64).bind fun σ16 =>
  (pR σ16 l0 9 27 (mN σ15)).bind fun σ17 =>
  (nA σ17 11 64).bind fun σ18 =>
  (pR σ18 l0 9 28 (mN σ17)).bind fun σ19 =>
  (nA σ19 11 3).bind fun σ20 =>
  (pR σ20 l0 9 30 (mN σ19)).bind fun σ21 =>
  (nA σ21 11 21).bind fun σ22 =>
  (pR σ22 l0 9 31 (mN σ21)).bind fun σ23 =>
  (nA σ23 11 36).bind fun σ24 =>
  (pR σ24 l0 9 32 (mN σ23)).bind fun σ25 =>
  some σ25
set_option maxRecDepth 20000 in
set_option maxHeartbeats 1000000 in
theorem e149 (d : Nat) {l0 : Nat} {σ : xM} {y : xM} (h : f149 l0 σ = some y) : Rn (d + 1) 149 0 [.ref l0] [] σ (none, y) := by
  unfold f149 at h
  refine rn_steps 4 6 [.ref l0] [.int (-1), .ref l0] rfl ?_
  obtain ⟨σ1, hσ1, h⟩ := Option.bind_eq_some_iff.mp h
  refine rn_pI (c := 9) (f := 2) rfl rfl ⟨⟨rfl, rfl⟩, rfl⟩ hσ1 ?_
  refine rn_steps 2 13 [.ref l0] [.int 900, .ref l0] rfl ?_
  obtain ⟨σ2, hσ2, h⟩ := Option.bind_eq_some_iff.mp h
  refine rn_nA rfl hσ2 ?_
  refine rn_steps 0 15 [.ref l0] [.ref (mN σ1), .ref l0] rfl ?_
  obtain ⟨σ3, hσ3, h⟩ := Option.bind_eq_some_iff.mp h
  refine rn_pR (c := 9) (f := 5) rfl rfl ⟨⟨rfl, rfl⟩, rfl⟩ hσ3 ?_
  refine rn_steps 2 21 [.ref l0] [.int 47, .ref l0] rfl ?_
  obtain ⟨σ4, hσ4, h⟩ := Option.bind_eq_some_iff.mp h
  refine rn_nA rfl hσ4 ?_
  refine rn_steps 0 23 [.ref l0] [.ref (mN σ3), .ref l0] rfl ?_
  obtain ⟨σ5, hσ5, h⟩ := Option.bind_eq_some_iff.mp h
  refine rn_pR (c := 9) (f := 16) rfl rfl ⟨⟨rfl, rfl⟩, rfl⟩ hσ5 ?_
  refine rn_steps 2 29 [.ref l0] [.int 47, .ref l0] rfl ?_
  obtain ⟨σ6, hσ6, h⟩ := Option.bind_eq_some_iff.mp h
  refine rn_nA rfl hσ6 ?_
  refine rn_steps 0 31 [.ref l0] [.ref (mN σ5), .ref l0] rfl ?_
  obtain ⟨σ7, hσ7, h⟩ := Option.bind_eq_some_iff.mp h
  refine rn_pR (c := 9) (f := 17) rfl rfl ⟨⟨rfl, rfl⟩, rfl⟩ hσ7 ?_
  refine rn_steps 2 38 [.ref l0] [.int 752, .ref l0] rfl ?_
  obtain ⟨σ8, hσ8, h⟩ := Option.bind_eq_some_iff.mp h
  refine rn_nA rfl hσ8 ?_
  refine rn_steps 0 40 [.ref l0] [.ref (mN σ7), .ref l0] rfl ?_
  obtain ⟨σ9, hσ9, h⟩ := Option.bind_eq_some_iff.mp h
  refine rn_pR (c := 9) (f := 18) rfl rfl ⟨⟨rfl, rfl⟩, rfl⟩ hσ9 ?_
  refine rn_steps 2 47 [.ref l0] [.int 141, .ref l0] rfl ?_
  obtain ⟨σ10, hσ10, h⟩ := Option.bind_eq_some_iff.mp h
  refine rn_nA rfl hσ10 ?_
  refine rn_steps 0 49 [.ref l0] [.ref (mN σ9), .ref l0] rfl ?_
  obtain ⟨σ11, hσ11, h⟩ := Option.bind_eq_some_iff.mp h
  refine rn_pR (c := 9) (f := 19) rfl rfl ⟨⟨rfl, rfl⟩, rfl⟩ hσ11 ?_
  refine rn_steps 2 55 [.ref l0] [.int 6, .ref l0] rfl ?_
  obtain ⟨σ12, hσ12, h⟩ := Option.bind_eq_some_iff.mp h
  refine rn_nA rfl hσ12 ?_
  refine rn_steps 0 57 [.ref l0] [.ref (mN σ11), .ref l0] rfl ?_
  obtain ⟨σ13, hσ13, h⟩ := Option.bind_eq_some_iff.mp h
  refine rn_pR (c := 9) (f := 22) rfl rfl ⟨⟨rfl, rfl⟩, rfl⟩ hσ13 ?_
  refine rn_steps 2 63 [.ref l0] [.int 6, .ref l0] rfl ?_
  obtain ⟨σ14, hσ14, h⟩ := Option.bind_eq_some_iff.mp h
  refine rn_nA rfl hσ14 ?_
  refine rn_steps 0 65 [.ref l0] [.ref (mN σ13), .ref l0] rfl ?_
  obtain ⟨σ15, hσ15, h⟩ := Option.bind_eq_some_iff.mp h
  refine rn_pR (c := 9) (f := 23) rfl rfl ⟨⟨rfl, rfl⟩, rfl⟩ hσ15 ?_
  refine rn_steps 2 71 [.ref l0] [.int 64, .ref l0] rfl ?_
  obtain ⟨σ16, hσ16, h⟩ := Option.bind_eq_some_iff.mp h
  refine rn_nA rfl hσ16 ?_
  refine rn_steps 0 73 [.ref l0] [.ref (mN σ15), .ref l0] rfl ?_
  obtain ⟨σ17, hσ17, h⟩ := Option.bind_eq_some_iff.mp h
  refine rn_pR (c := 9) (f := 27) rfl rfl ⟨⟨rfl, rfl⟩, rfl⟩ hσ17 ?_
  refine rn_steps 2 79 [.ref l0] [.int 64, .ref l0] rfl ?_
  obtain ⟨σ18, hσ18, h⟩ := Option.bind_eq_some_iff.mp h
  refine rn_nA rfl hσ18 ?_
  refine rn_steps 0 81 [.ref l0] [.ref (mN σ17), .ref l0] rfl ?_
  obtain ⟨σ19, hσ19, h⟩ := Option.bind_eq_some_iff.mp h
  refine rn_pR (c := 9) (f := 28) rfl rfl ⟨⟨rfl, rfl⟩, rfl⟩ hσ19 ?_
  refine rn_steps 2 86 [.ref l0] [.int 3, .ref l0] rfl ?_
  obtain ⟨σ20, hσ20, h⟩ := Option.bind_eq_some_iff.mp h
  refine rn_nA rfl hσ20 ?_
  refine rn_steps 0 88 [.ref l0] [.ref (mN σ19), .ref l0] rfl ?_
  obtain ⟨σ21, hσ21, h⟩ := Option.bind_eq_some_iff.mp h
  refine rn_pR (c := 9) (f := 30) rfl rfl ⟨⟨rfl, rfl⟩, rfl⟩ hσ21 ?_
  refine rn_steps 2 94 [.ref l0] [.int 21, .ref l0] rfl ?_
  obtain ⟨σ22, hσ22, h⟩ := Option.bind_eq_some_iff.mp h
  refine rn_nA rfl hσ22 ?_
  refine rn_steps 0 96 [.ref l0] [.ref (mN σ21), .ref l0] rfl ?_
  obtain ⟨σ23, hσ23, h⟩ := Option.bind_eq_some_iff.mp h
  refine rn_pR (c := 9) (f := 31) rfl rfl ⟨⟨rfl, rfl⟩, rfl⟩ hσ23 ?_
  refine rn_steps 2 102 [.ref l0] [.int 36, .ref l0] rfl ?_
  obtain ⟨σ24, hσ24, h⟩ := Option.bind_eq_some_iff.mp h
  refine rn_nA rfl hσ24 ?_
  refine rn_steps 0 104 [.ref l0] [.ref (mN σ23), .ref l0] rfl ?_
  obtain ⟨σ25, hσ25, h⟩ := Option.bind_eq_some_iff.mp h
  refine rn_pR (c := 9) (f := 32) rfl rfl ⟨⟨rfl, rfl⟩, rfl⟩ hσ25 ?_
  refine rn_steps 0 107 [.ref l0] [] rfl ?_
  cases h
  exact rn_ret rfl rfl rfl
/-- LastAskedModel.thrown()I -/
noncomputable def f150 (l0 : Nat) (σ : xM) : Option (Int32 × xM) :=
  (gI σ l0 9 0).bind fun v1 =>
  some (v1, σ)
set_option maxRecDepth 20000 in
set_option maxHeartbeats 1000000 in
theorem e150 (d : Nat) {l0 : Nat} {σ : xM} {y : Int32 × xM} (h : f150 l0 σ = some y) : Rn (d + 0) 150 0 [.ref l0] [] σ (some (.int y.1), y.2) := by
  unfold f150 at h
  refine rn_steps 1 1 [.ref l0] [.ref l0] rfl ?_
  obtain ⟨v1, hv1, h⟩ := Option.bind_eq_some_iff.mp h
  refine rn_gI (c := 9) (f := 0) rfl rfl ⟨⟨rfl, rfl⟩, Or.inl rfl⟩ hv1 ?_
  refine rn_steps 0 4 [.ref l0] [.int v1] rfl ?_
  cases h
  exact rn_ret rfl rfl rfl
/-- LastAskedModel.refused(I)I -/
noncomputable def f151 (l0 : Nat) (l1 : Int32) (σ : xM) : Option (Int32 × xM) :=
  (pI σ l0 9 1 l1).bind fun σ1 =>
  (pI σ1 l0 9 2 (-1)).bind fun σ2 =>
  some ((-1), σ2)
set_option maxRecDepth 20000 in
set_option maxHeartbeats 1000000 in
theorem e151 (d : Nat) {l0 : Nat} {l1 : Int32} {σ : xM} {y : Int32 × xM} (h : f151 l0 l1 σ = some y) : Rn (d + 0) 151 0 [.ref l0, .int l1] [] σ (some (.int y.1), y.2) := by
  unfold f151 at h
  refine rn_steps 2 2 [.ref l0, .int l1] [.int l1, .ref l0] rfl ?_
  obtain ⟨σ1, hσ1, h⟩ := Option.bind_eq_some_iff.mp h
  refine rn_pI (c := 9) (f := 1) rfl rfl ⟨⟨rfl, rfl⟩, rfl⟩ hσ1 ?_
  refine rn_steps 2 7 [.ref l0, .int l1] [.int (-1), .ref l0] rfl ?_
  obtain ⟨σ2, hσ2, h⟩ := Option.bind_eq_some_iff.mp h
  refine rn_pI (c := 9) (f := 2) rfl rfl ⟨⟨rfl, rfl⟩, rfl⟩ hσ2 ?_
  refine rn_steps 1 11 [.ref l0, .int l1] [.int (-1)] rfl ?_
  cases h
  exact rn_ret rfl rfl rfl
/-- LastAskedModel.lost(I)I -/
noncomputable def f152 (l0 : Nat) (l1 : Int32) (σ : xM) : Option (Int32 × xM) :=
  (cO σ l0 9).bind fun u2 =>
  (f151 l0 l1 σ).bind fun y1 =>
  some ((-100), y1.2)
set_option maxRecDepth 20000 in
set_option maxHeartbeats 1000000 in
theorem e152 (d : Nat) {l0 : Nat} {l1 : Int32} {σ : xM} {y : Int32 × xM} (h : f152 l0 l1 σ = some y) : Rn (d + 1) 152 0 [.ref l0, .int l1] [] σ (some (.int y.1), y.2) := by
  unfold f152 at h
  refine rn_steps 2 2 [.ref l0, .int l1] [.int l1, .ref l0] rfl ?_
  obtain ⟨u2, hu2, h⟩ := Option.bind_eq_some_iff.mp h
  obtain ⟨y1, hy1, h⟩ := Option.bind_eq_some_iff.mp h
  refine rn_callV [.int l1] rfl rfl ⟨rfl, rfl⟩ hu2 rfl rfl (e151 d hy1) ?_
  refine rn_steps 2 8 [.ref l0, .int l1] [.int (-100)] rfl ?_
  cases h
  exact rn_ret rfl rfl rfl
/-- LastAskedModel.denied(I)Z -/
noncomputable def f153 (l0 : Nat) (l1 : Int32) (σ : xM) : Option (Int32 × xM) :=
  (cO σ l0 9).bind fun u2 =>
  (f151 l0 l1 σ).bind fun y1 =>
  rZ 0 y1.2
set_option maxRecDepth 20000 in
set_option maxHeartbeats 1000000 in
theorem e153 (d : Nat) {l0 : Nat} {l1 : Int32} {σ : xM} {y : Int32 × xM} (h : f153 l0 l1 σ = some y) : Rn (d + 1) 153 0 [.ref l0, .int l1] [] σ (some (.int y.1), y.2) := by
  unfold f153 at h
  refine rn_steps 2 2 [.ref l0, .int l1] [.int l1, .ref l0] rfl ?_
  obtain ⟨u2, hu2, h⟩ := Option.bind_eq_some_iff.mp h
  obtain ⟨y1, hy1, h⟩ := Option.bind_eq_some_iff.mp h
  refine rn_callV [.int l1] rfl rfl ⟨rfl, rfl⟩ hu2 rfl rfl (e151 d hy1) ?_
  refine rn_steps 2 7 [.ref l0, .int l1] [.int 0] rfl ?_
  exact rn_retZ rfl rfl h
/-- LastAskedModel.good(I)I -/
noncomputable def f154 (l0 : Nat) (l1 : Int32) (σ : xM) : Option (Int32 × xM) :=
  (pI σ l0 9 1 0).bind fun σ1 =>
  (pI σ1 l0 9 2 (-1)).bind fun σ2 =>
  some (l1, σ2)
set_option maxRecDepth 20000 in
set_option maxHeartbeats 1000000 in
theorem e154 (d : Nat) {l0 : Nat} {l1 : Int32} {σ : xM} {y : Int32 × xM} (h : f154 l0 l1 σ = some y) : Rn (d + 0) 154 0 [.ref l0, .int l1] [] σ (some (.int y.1), y.2) := by
  unfold f154 at h
  refine rn_steps 2 2 [.ref l0, .int l1] [.int 0, .ref l0] rfl ?_
  obtain ⟨σ1, hσ1, h⟩ := Option.bind_eq_some_iff.mp h
  refine rn_pI (c := 9) (f := 1) rfl rfl ⟨⟨rfl, rfl⟩, rfl⟩ hσ1 ?_
  refine rn_steps 2 7 [.ref l0, .int l1] [.int (-1), .ref l0] rfl ?_
  obtain ⟨σ2, hσ2, h⟩ := Option.bind_eq_some_iff.mp h
  refine rn_pI (c := 9) (f := 2) rfl rfl ⟨⟨rfl, rfl⟩, rfl⟩ hσ2 ?_
  refine rn_steps 1 11 [.ref l0, .int l1] [.int l1] rfl ?_
  cases h
  exact rn_ret rfl rfl rfl
/-- LastAskedModel.granted()Z -/
noncomputable def f155 (l0 : Nat) (σ : xM) : Option (Int32 × xM) :=
  (cO σ l0 9).bind fun u2 =>
  (f154 l0 0 σ).bind fun y1 =>
  rZ 1 y1.2
set_option maxRecDepth 20000 in
set_option maxHeartbeats 1000000 in
theorem e155 (d : Nat) {l0 : Nat} {σ : xM} {y : Int32 × xM} (h : f155 l0 σ = some y) : Rn (d + 1) 155 0 [.ref l0] [] σ (some (.int y.1), y.2) := by
  unfold f155 at h
  refine rn_steps 2 2 [.ref l0] [.int 0, .ref l0] rfl ?_
  obtain ⟨u2, hu2, h⟩ := Option.bind_eq_some_iff.mp h
  obtain ⟨y1, hy1, h⟩ := Option.bind_eq_some_iff.mp h
  refine rn_callV [.int 0] rfl rfl ⟨rfl, rfl⟩ hu2 rfl rfl (e154 d hy1) ?_
  refine rn_steps 2 7 [.ref l0] [.int 1] rfl ?_
  exact rn_retZ rfl rfl h
noncomputable def f156_15 (s0 : Int32) (σ : xM) : Option (Int32 × xM) :=
  rZ s0 σ
set_option maxRecDepth 20000 in
set_option maxHeartbeats 1000000 in
theorem e156_15 (d : Nat) (s0 : Int32) (x0 x1 x2 : Value) (σ : xM) (y : Int32 × xM) (h : f156_15 s0 σ = some y) : Rn (d + 0) 156 15 [x0, x1, x2] [.int s0] σ (some (.int y.1), y.2) := by
  unfold f156_15 at h
  exact rn_retZ rfl rfl h
noncomputable def f156_14 (σ : xM) : Option (Int32 × xM) :=
  f156_15 0 σ
set_option maxRecDepth 20000 in
set_option maxHeartbeats 1000000 in
theorem e156_14 (d : Nat) (x0 x1 x2 : Value) (σ : xM) (y : Int32 × xM) (h : f156_14 σ = some y) : Rn (d + 0) 156 14 [x0, x1, x2] [] σ (some (.int y.1), y.2) := by
  unfold f156_14 at h
  refine rn_steps 1 15 [x0, x1, x2] [.int 0] rfl ?_
  exact e156_15 d _ _ _ _ _ _ h
/-- LastAskedModel.in(III)Z -/
noncomputable def f156 (l0 : Int32) (l1 : Int32) (l2 : Int32) (σ : xM) : Option (Int32 × xM) :=
  if l0 < l1 then
  f156_14 σ
  else
  if l2 < l0 then
  f156_14 σ
  else
  f156_15 1 σ
set_option maxRecDepth 20000 in
set_option maxHeartbeats 1000000 in
theorem e156 (d : Nat) {l0 : Int32} {l1 : Int32} {l2 : Int32} {σ : xM} {y : Int32 × xM} (h : f156 l0 l1 l2 σ = some y) : Rn (d + 0) 156 0 [.int l0, .int l1, .int l2] [] σ (some (.int y.1), y.2) := by
  unfold f156 at h
  refine rn_steps 2 2 [.int l0, .int l1, .int l2] [.int l1, .int l0] rfl ?_
  refine rn_br (c := l0 < l1) rfl rfl decide_eq_true_iff (fun hb => ?_) (fun hb => ?_)
  · rw [if_pos hb] at h
    refine rn_steps 0 14 [.int l0, .int l1, .int l2] [] rfl ?_
    exact e156_14 d _ _ _ _ _ h
  · rw [if_neg hb] at h
    refine rn_steps 2 7 [.int l0, .int l1, .int l2] [.int l2, .int l0] rfl ?_
    refine rn_br (c := l2 < l0) rfl rfl decide_eq_true_iff (fun hb => ?_) (fun hb => ?_)
    · rw [if_pos hb] at h
      refine rn_steps 0 14 [.int l0, .int l1, .int l2] [] rfl ?_
      exact e156_14 d _ _ _ _ _ h
    · rw [if_neg hb] at h
      refine rn_steps 2 15 [.int l0, .int l1, .int l2] [.int 1] rfl ?_
      exact e156_15 d _ _ _ _ _ _ h
noncomputable def f158_20 (l1 : Int32) (σ : xM) : Option (Int32 × xM) :=
  some (l1, σ)
set_option maxRecDepth 20000 in
set_option maxHeartbeats 1000000 in
theorem e158_20 (d : Nat) (l1 : Int32) (x0 x2 : Value) (σ : xM) (y : Int32 × xM) (h : f158_20 l1 σ = some y) : Rn (d + 0) 158 20 [x0, .int l1, x2] [] σ (some (.int y.1), y.2) := by
  unfold f158_20 at h
  refine rn_steps 1 21 [x0, .int l1, x2] [.int l1] rfl ?_
  cases h
  exact rn_ret rfl rfl rfl
noncomputable def f158_4 : Nat → Int32 → Int32 → xM → Option (Int32 × xM)
  | 0, _, _, _ => none
  | n + 1, l1, l2, σ =>
    if l2 = 0 then
    f158_20 l1 σ
    else
    (f158_4 n) (l1 + 1) (l2 &&& (l2 - 1)) σ
set_option maxRecDepth 20000 in
set_option maxHeartbeats 1000000 in
theorem e158_4 (d : Nat) : ∀ (n : Nat) (l1 : Int32) (l2 : Int32) (x0 : Value) (σ : xM) (y : Int32 × xM), f158_4 n l1 l2 σ = some y → Rn (d + 0) 158 4 [x0, .int l1, .int l2] [] σ (some (.int y.1), y.2) := by
  intro n
  induction n with
  | zero => intro l1 l2 x0 σ y h; cases h
  | succ n ih =>
    intro l1 l2 x0 σ y h
    unfold f158_4 at h
    refine rn_steps 1 5 [x0, .int l1, .int l2] [.int l2] rfl ?_
    refine rn_br (c := l2 = 0) rfl rfl decide_eq_true_iff (fun hb => ?_) (fun hb => ?_)
    · rw [if_pos hb] at h
      refine rn_steps 0 20 [x0, .int l1, .int l2] [] rfl ?_
      exact e158_20 d _ _ _ _ _ h
    · rw [if_neg hb] at h
      refine rn_steps 8 4 [x0, .int (l1 + 1), .int (l2 &&& (l2 - 1))] [] rfl ?_
      exact ih _ _ _ _ _ h
/-- LastAskedModel.bits(I)I -/
noncomputable def f158 (l0 : Int32) (σ : xM) : Option (Int32 × xM) :=
  f158_4 1100 0 l0 σ
set_option maxRecDepth 20000 in
set_option maxHeartbeats 1000000 in
theorem e158 (d : Nat) {l0 : Int32} {σ : xM} {y : Int32 × xM} (h : f158 l0 σ = some y) : Rn (d + 0) 158 0 [.int l0, .retAddr 0, .retAddr 0] [] σ (some (.int y.1), y.2) := by
  unfold f158 at h
  refine rn_steps 4 4 [.int l0, .int 0, .int l0] [] rfl ?_
  exact e158_4 d 1100 _ _ _ _ _ h
noncomputable def f159_31 (l4 : Int64) (σ : xM) : Option (Int64 × xM) :=
  some (l4, σ)
set_option maxRecDepth 20000 in
set_option maxHeartbeats 1000000 in
theorem e159_31 (d : Nat) (l4 : Int64) (x0 x1 x2 x3 x6 x7 x8 x9 : Value) (σ : xM) (y : Int64 × xM) (h : f159_31 l4 σ = some y) : Rn (d + 0) 159 31 [x0, x1, x2, x3, .long l4, .retAddr 1, x6, x7, x8, x9] [] σ (some (.long y.1), y.2) := by
  unfold f159_31 at h
  refine rn_steps 1 33 [x0, x1, x2, x3, .long l4, .retAddr 1, x6, x7, x8, x9] [.long l4] rfl ?_
  cases h
  exact rn_ret rfl rfl rfl
noncomputable def f159_6 : Nat → Int64 → Int64 → xM → Option (Int64 × xM)
  | 0, _, _, _ => none
  | n + 1, l4, l6, σ =>
    if (lg_cmp l6 0) = 0 then
    f159_31 l4 σ
    else
    (rJ l4 l6).bind fun v1 =>
    (f159_6 n) l6 v1 σ
set_option maxRecDepth 20000 in
set_option maxHeartbeats 1000000 in
theorem e159_6 (d : Nat) : ∀ (n : Nat) (l4 : Int64) (l6 : Int64) (x0 x1 x2 x3 x8 x9 : Value) (σ : xM) (y : Int64 × xM), f159_6 n l4 l6 σ = some y → Rn (d + 0) 159 6 [x0, x1, x2, x3, .long l4, .retAddr 1, .long l6, .retAddr 1, x8, x9] [] σ (some (.long y.1), y.2) := by
  intro n
  induction n with
  | zero => intro l4 l6 x0 x1 x2 x3 x8 x9 σ y h; cases h
  | succ n ih =>
    intro l4 l6 x0 x1 x2 x3 x8 x9 σ y h
    unfold f159_6 at h
    refine rn_steps 3 10 [x0, x1, x2, x3, .long l4, .retAddr 1, .long l6, .retAddr 1, x8, x9] [.int (lg_cmp l6 0)] rfl ?_
    refine rn_br (c := (lg_cmp l6 0) = 0) rfl rfl decide_eq_true_iff (fun hb => ?_) (fun hb => ?_)
    · rw [if_pos hb] at h
      refine rn_steps 0 31 [x0, x1, x2, x3, .long l4, .retAddr 1, .long l6, .retAddr 1, x8, x9] [] rfl ?_
      exact e159_31 d _ _ _ _ _ _ _ _ _ _ _ h
    · rw [if_neg hb] at h
      refine rn_steps 2 17 [x0, x1, x2, x3, .long l4, .retAddr 1, .long l6, .retAddr 1, x8, x9] [.long l6, .long l4] rfl ?_
      obtain ⟨v1, hv1, h⟩ := Option.bind_eq_some_iff.mp h
      refine rn_rJ rfl hv1 ?_
      refine rn_steps 6 6 [x0, x1, x2, x3, .long l6, .retAddr 1, .long v1, .retAddr 1, .long v1, .retAddr 1] [] rfl ?_
      exact ih _ _ _ _ _ _ _ _ _ _ h
/-- LastAskedModel.common(JJ)J -/
noncomputable def f159 (l0 : Int64) (l2 : Int64) (σ : xM) : Option (Int64 × xM) :=
  f159_6 1100 l0 l2 σ
set_option maxRecDepth 20000 in
set_option maxHeartbeats 1000000 in
theorem e159 (d : Nat) {l0 : Int64} {l2 : Int64} {σ : xM} {y : Int64 × xM} (h : f159 l0 l2 σ = some y) : Rn (d + 0) 159 0 [.long l0, .retAddr 1, .long l2, .retAddr 1, .retAddr 0, .retAddr 0, .retAddr 0, .retAddr 0, .retAddr 0, .retAddr 0] [] σ (some (.long y.1), y.2) := by
  unfold f159 at h
  refine rn_steps 4 6 [.long l0, .retAddr 1, .long l2, .retAddr 1, .long l0, .retAddr 1, .long l2, .retAddr 1, .retAddr 0, .retAddr 0] [] rfl ?_
  exact e159_6 d 1100 _ _ _ _ _ _ _ _ _ _ h
noncomputable def f160_16 (l1 : Int64) (l3 : Int64) (s0 : Int64) (σ : xM) : Option (Int64 × xM) :=
  (f159 l1 l3 σ).bind fun y1 =>
  (dJ s0 y1.1).bind fun v2 =>
  some (v2, y1.2)
set_option maxRecDepth 20000 in
set_option maxHeartbeats 1000000 in
theorem e160_16 (d : Nat) (l1 : Int64) (l3 : Int64) (s0 : Int64) (x0 x5 : Value) (σ : xM) (y : Int64 × xM) (h : f160_16 l1 l3 s0 σ = some y) : Rn (d + 1) 160 16 [x0, .long l1, .retAddr 1, .long l3, .retAddr 1, x5] [.long s0] σ (some (.long y.1), y.2) := by
  unfold f160_16 at h
  refine rn_steps 2 18 [x0, .long l1, .retAddr 1, .long l3, .retAddr 1, x5] [.long l3, .long l1, .long s0] rfl ?_
  obtain ⟨y1, hy1, h⟩ := Option.bind_eq_some_iff.mp h
  refine rn_callS [.long l1, .long l3] rfl rfl rfl ⟨rfl, rfl, rfl⟩ rfl rfl (e159 d hy1) ?_
  refine rn_steps 0 21 [x0, .long l1, .retAddr 1, .long l3, .retAddr 1, x5] [.long y1.1, .long s0] rfl ?_
  obtain ⟨v2, hv2, h⟩ := Option.bind_eq_some_iff.mp h
  refine rn_dJ rfl hv2 ?_
  refine rn_steps 0 22 [x0, .long l1, .retAddr 1, .long l3, .retAddr 1, x5] [.long v2] rfl ?_
  cases h
  exact rn_ret rfl rfl rfl
/-- LastAskedModel.fraction(JJZ)J -/
noncomputable def f160 (l0 : Nat) (l1 : Int64) (l3 : Int64) (l5 : Int32) (σ : xM) : Option (Int64 × xM) :=
  (cO σ l0 9).bind fun u2 =>
  (f154 l0 0 σ).bind fun y1 =>
  if l5 = 0 then
  f160_16 l1 l3 l1 y1.2
  else
  f160_16 l1 l3 l3 y1.2
set_option maxRecDepth 20000 in
set_option maxHeartbeats 1000000 in
theorem e160 (d : Nat) {l0 : Nat} {l1 : Int64} {l3 : Int64} {l5 : Int32} {σ : xM} {y : Int64 × xM} (h : f160 l0 l1 l3 l5 σ = some y) : Rn (d + 1) 160 0 [.ref l0, .long l1, .retAddr 1, .long l3, .retAddr 1, .int l5] [] σ (some (.long y.1), y.2) := by
  unfold f160 at h
  refine rn_steps 2 2 [.ref l0, .long l1, .retAddr 1, .long l3, .retAddr 1, .int l5] [.int 0, .ref l0] rfl ?_
  obtain ⟨u2, hu2, h⟩ := Option.bind_eq_some_iff.mp h
  obtain ⟨y1, hy1, h⟩ := Option.bind_eq_some_iff.mp h
  refine rn_callV [.int 0] rfl rfl ⟨rfl, rfl⟩ hu2 rfl rfl (e154 d hy1) ?_
  refine rn_steps 2 8 [.ref l0, .long l1, .retAddr 1, .long l3, .retAddr 1, .int l5] [.int l5] rfl ?_
  refine rn_br (c := l5 = 0) rfl rfl decide_eq_true_iff (fun hb => ?_) (fun hb => ?_)
  · rw [if_pos hb] at h
    refine rn_steps 1 16 [.ref l0, .long l1, .retAddr 1, .long l3, .retAddr 1, .int l5] [.long l1] rfl ?_
    exact e160_16 d _ _ _ _ _ _ _ h
  · rw [if_neg hb] at h
    refine rn_steps 2 16 [.ref l0, .long l1, .retAddr 1, .long l3, .retAddr 1, .int l5] [.long l3] rfl ?_
    exact e160_16 d _ _ _ _ _ _ _ h
noncomputable def f161_22 (s0 : Int32) (σ : xM) : Option (Int32 × xM) :=
  some (s0, σ)
set_option maxRecDepth 20000 in
set_option maxHeartbeats 1000000 in
theorem e161_22 (d : Nat) (s0 : Int32) (x0 x1 : Value) (σ : xM) (y : Int32 × xM) (h : f161_22 s0 σ = some y) : Rn (d + 0) 161 22 [x0, x1] [.int s0] σ (some (.int y.1), y.2) := by
  unfold f161_22 at h
  cases h
  exact rn_ret rfl rfl rfl
/-- LastAskedModel.byteAt(I)I -/
noncomputable def f161 (l0 : Nat) (l1 : Int32) (σ : xM) : Option (Int32 × xM) :=
  (gI σ l0 9 7).bind fun v1 =>
  if v1 ≤ l1 then
  f161_22 (-1) σ
  else
  (gR σ l0 9 5).bind fun r2 =>
  (aB σ r2 l1).bind fun v3 =>
  f161_22 (v3 &&& 255) σ
set_option maxRecDepth 20000 in
set_option maxHeartbeats 1000000 in
theorem e161 (d : Nat) {l0 : Nat} {l1 : Int32} {σ : xM} {y : Int32 × xM} (h : f161 l0 l1 σ = some y) : Rn (d + 0) 161 0 [.ref l0, .int l1] [] σ (some (.int y.1), y.2) := by
  unfold f161 at h
  refine rn_steps 2 2 [.ref l0, .int l1] [.ref l0, .int l1] rfl ?_
  obtain ⟨v1, hv1, h⟩ := Option.bind_eq_some_iff.mp h
  refine rn_gI (c := 9) (f := 7) rfl rfl ⟨⟨rfl, rfl⟩, Or.inl rfl⟩ hv1 ?_
  refine rn_steps 0 5 [.ref l0, .int l1] [.int v1, .int l1] rfl ?_
  refine rn_br (c := v1 ≤ l1) rfl rfl decide_eq_true_iff (fun hb => ?_) (fun hb => ?_)
  · rw [if_pos hb] at h
    refine rn_steps 1 22 [.ref l0, .int l1] [.int (-1)] rfl ?_
    exact e161_22 d _ _ _ _ _ h
  · rw [if_neg hb] at h
    refine rn_steps 1 9 [.ref l0, .int l1] [.ref l0] rfl ?_
    obtain ⟨r2, hr2, h⟩ := Option.bind_eq_some_iff.mp h
    refine rn_gR (c := 9) (f := 5) rfl rfl ⟨⟨rfl, rfl⟩, rfl⟩ hr2 ?_
    refine rn_steps 1 13 [.ref l0, .int l1] [.int l1, .ref r2] rfl ?_
    obtain ⟨v3, hv3, h⟩ := Option.bind_eq_some_iff.mp h
    refine rn_aB rfl hv3 ?_
    refine rn_steps 3 22 [.ref l0, .int l1] [.int (v3 &&& 255)] rfl ?_
    exact e161_22 d _ _ _ _ _ h
noncomputable def f162_17 (s0 : Int32) (σ : xM) : Option (Int32 × xM) :=
  rZ s0 σ
set_option maxRecDepth 20000 in
set_option maxHeartbeats 1000000 in
theorem e162_17 (d : Nat) (s0 : Int32) (x0 : Value) (σ : xM) (y : Int32 × xM) (h : f162_17 s0 σ = some y) : Rn (d + 0) 162 17 [x0] [.int s0] σ (some (.int y.1), y.2) := by
  unfold f162_17 at h
  exact rn_retZ rfl rfl h
noncomputable def f162_16 (σ : xM) : Option (Int32 × xM) :=
  f162_17 0 σ
set_option maxRecDepth 20000 in
set_option maxHeartbeats 1000000 in
theorem e162_16 (d : Nat) (x0 : Value) (σ : xM) (y : Int32 × xM) (h : f162_16 σ = some y) : Rn (d + 0) 162 16 [x0] [] σ (some (.int y.1), y.2) := by
  unfold f162_16 at h
  refine rn_steps 1 17 [x0] [.int 0] rfl ?_
  exact e162_17 d _ _ _ _ h
/-- LastAskedModel.isLetter(I)Z -/
noncomputable def f162 (l0 : Int32) (σ : xM) : Option (Int32 × xM) :=
  if l0 < 97 then
  f162_16 σ
  else
  if 122 < l0 then
  f162_16 σ
  else
  f162_17 1 σ
set_option maxRecDepth 20000 in
set_option maxHeartbeats 1000000 in
theorem e162 (d : Nat) {l0 : Int32} {σ : xM} {y : Int32 × xM} (h : f162 l0 σ = some y) : Rn (d + 0) 162 0 [.int l0] [] σ (some (.int y.1), y.2) := by
  unfold f162 at h
  refine rn_steps 2 3 [.int l0] [.int 97, .int l0] rfl ?_
  refine rn_br (c := l0 < 97) rfl rfl decide_eq_true_iff (fun hb => ?_) (fun hb => ?_)
  · rw [if_pos hb] at h
    refine rn_steps 0 16 [.int l0] [] rfl ?_
    exact e162_16 d _ _ _ h
  · rw [if_neg hb] at h
    refine rn_steps 2 9 [.int l0] [.int 122, .int l0] rfl ?_
    refine rn_br (c := 122 < l0) rfl rfl decide_eq_true_iff (fun hb => ?_) (fun hb => ?_)
    · rw [if_pos hb] at h
      refine rn_steps 0 16 [.int l0] [] rfl ?_
      exact e162_16 d _ _ _ h
    · rw [if_neg hb] at h
      refine rn_steps 2 17 [.int l0] [.int 1] rfl ?_
      exact e162_17 d _ _ _ _ h
noncomputable def f163_17 (s0 : Int32) (σ : xM) : Option (Int32 × xM) :=
  rZ s0 σ
set_option maxRecDepth 20000 in
set_option maxHeartbeats 1000000 in
theorem e163_17 (d : Nat) (s0 : Int32) (x0 : Value) (σ : xM) (y : Int32 × xM) (h : f163_17 s0 σ = some y) : Rn (d + 0) 163 17 [x0] [.int s0] σ (some (.int y.1), y.2) := by
  unfold f163_17 at h
  exact rn_retZ rfl rfl h
noncomputable def f163_16 (σ : xM) : Option (Int32 × xM) :=
  f163_17 0 σ
set_option maxRecDepth 20000 in
set_option maxHeartbeats 1000000 in
theorem e163_16 (d : Nat) (x0 : Value) (σ : xM) (y : Int32 × xM) (h : f163_16 σ = some y) : Rn (d + 0) 163 16 [x0] [] σ (some (.int y.1), y.2) := by
  unfold f163_16 at h
  refine rn_steps 1 17 [x0] [.int 0] rfl ?_
  exact e163_17 d _ _ _ _ h
/-- LastAskedModel.isDigit(I)Z -/
noncomputable def f163 (l0 : Int32) (σ : xM) : Option (Int32 × xM) :=
  if l0 < 48 then
  f163_16 σ
  else
  if 57 < l0 then
  f163_16 σ
  else
  f163_17 1 σ
set_option maxRecDepth 20000 in
set_option maxHeartbeats 1000000 in
theorem e163 (d : Nat) {l0 : Int32} {σ : xM} {y : Int32 × xM} (h : f163 l0 σ = some y) : Rn (d + 0) 163 0 [.int l0] [] σ (some (.int y.1), y.2) := by
  unfold f163 at h
  refine rn_steps 2 3 [.int l0] [.int 48, .int l0] rfl ?_
  refine rn_br (c := l0 < 48) rfl rfl decide_eq_true_iff (fun hb => ?_) (fun hb => ?_)
  · rw [if_pos hb] at h
    refine rn_steps 0 16 [.int l0] [] rfl ?_
    exact e163_16 d _ _ _ h
  · rw [if_neg hb] at h
    refine rn_steps 2 9 [.int l0] [.int 57, .int l0] rfl ?_
    refine rn_br (c := 57 < l0) rfl rfl decide_eq_true_iff (fun hb => ?_) (fun hb => ?_)
    · rw [if_pos hb] at h
      refine rn_steps 0 16 [.int l0] [] rfl ?_
      exact e163_16 d _ _ _ h
    · rw [if_neg hb] at h
      refine rn_steps 2 17 [.int l0] [.int 1] rfl ?_
      exact e163_17 d _ _ _ _ h
noncomputable def f165_265 (σ : xM) : Option xM :=
  some σ
set_option maxRecDepth 20000 in
set_option maxHeartbeats 1000000 in
theorem e165_265 (d : Nat) (x0 x1 x2 : Value) (σ : xM) (y : xM) (h : f165_265 σ = some y) : Rn (d + 1) 165 265 [x0, x1, x2] [] σ (none, y) := by
  unfold f165_265 at h
  cases h
  exact rn_ret rfl rfl rfl
noncomputable def f165_231 (l0 : Nat) (l2 : Int32) (σ : xM) : Option xM :=
  if 3 < l2 then
  f165_265 σ
  else
  (pI σ l0 9 9 3).bind fun σ1 =>
  f165_265 σ1
set_option maxRecDepth 20000 in
set_option maxHeartbeats 1000000 in
theorem e165_231 (d : Nat) (l0 : Nat) (l2 : Int32) (x1 : Value) (σ : xM) (y : xM) (h : f165_231 l0 l2 σ = some y) : Rn (d + 1) 165 231 [.ref l0, x1, .int l2] [] σ (none, y) := by
  unfold f165_231 at h
  refine rn_steps 2 233 [.ref l0, x1, .int l2] [.int 3, .int l2] rfl ?_
  refine rn_br (c := 3 < l2) rfl rfl decide_eq_true_iff (fun hb => ?_) (fun hb => ?_)
  · rw [if_pos hb] at h
    refine rn_steps 0 265 [.ref l0, x1, .int l2] [] rfl ?_
    exact e165_265 d _ _ _ _ _ h
  · rw [if_neg hb] at h
    refine rn_steps 2 238 [.ref l0, x1, .int l2] [.int 3, .ref l0] rfl ?_
    obtain ⟨σ1, hσ1, h⟩ := Option.bind_eq_some_iff.mp h
    refine rn_pI (c := 9) (f := 9) rfl rfl ⟨⟨rfl, rfl⟩, rfl⟩ hσ1 ?_
    refine rn_steps 1 265 [.ref l0, x1, .int l2] [] rfl ?_
    exact e165_265 d _ _ _ _ _ h
noncomputable def f165_215 (K173 : Nat → Int32 → xM → Option xM) (l0 : Nat) (l2 : Int32) (σ : xM) : Option xM :=
  (gI σ l0 9 8).bind fun v1 =>
  (pI σ l0 9 8 (v1 + 1)).bind fun σ2 =>
  K173 l0 (l2 + 1) σ2
set_option maxRecDepth 20000 in
set_option maxHeartbeats 1000000 in
theorem e165_215 (d : Nat) (K173 : Nat → Int32 → xM → Option xM) (hK173 : ∀ (l0 : Nat) (l2 : Int32) (x1 : Value) (σ : xM) (y : xM), K173 l0 l2 σ = some y → Rn (d + 1) 165 173 [.ref l0, x1, .int l2] [] σ (none, y)) (l0 : Nat) (l2 : Int32) (x1 : Value) (σ : xM) (y : xM) (h : f165_215 K173 l0 l2 σ = some y) : Rn (d + 1) 165 215 [.ref l0, x1, .int l2] [] σ (none, y) := by
  unfold f165_215 at h
  refine rn_steps 3 220 [.ref l0, x1, .int (l2 + 1)] [.ref l0, .ref l0] rfl ?_
  obtain ⟨v1, hv1, h⟩ := Option.bind_eq_some_iff.mp h
  refine rn_gI (c := 9) (f := 8) rfl rfl ⟨⟨rfl, rfl⟩, Or.inl rfl⟩ hv1 ?_
  refine rn_steps 2 225 [.ref l0, x1, .int (l2 + 1)] [.int (v1 + 1), .ref l0] rfl ?_
  obtain ⟨σ2, hσ2, h⟩ := Option.bind_eq_some_iff.mp h
  refine rn_pI (c := 9) (f := 8) rfl rfl ⟨⟨rfl, rfl⟩, rfl⟩ hσ2 ?_
  refine rn_steps 1 173 [.ref l0, x1, .int (l2 + 1)] [] rfl ?_
  exact hK173 _ _ _ _ _ h
noncomputable def f165_173 : Nat → Nat → Int32 → xM → Option xM
  | 0, _, _, _ => none
  | n + 1, l0, l2, σ =>
    (gI σ l0 9 8).bind fun v1 =>
    (cO σ l0 9).bind fun u9 =>
    (f161 l0 v1 σ).bind fun y2 =>
    (f163 y2.1 y2.2).bind fun y3 =>
    if y3.1 = 0 then
    f165_231 l0 l2 y3.2
    else
    if 3 ≤ l2 then
    f165_215 (f165_173 n) l0 l2 y3.2
    else
    (gI y3.2 l0 9 11).bind fun v4 =>
    (gI y3.2 l0 9 8).bind fun v5 =>
    (cO y3.2 l0 9).bind fun u8 =>
    (f161 l0 v5 y3.2).bind fun y6 =>
    (pI y6.2 l0 9 11 (((10 * v4) + y6.1) - 48)).bind fun σ7 =>
    f165_215 (f165_173 n) l0 l2 σ7
set_option maxRecDepth 20000 in
set_option maxHeartbeats 1000000 in
theorem e165_173 (d : Nat) : ∀ (n : Nat) (l0 : Nat) (l2 : Int32) (x1 : Value) (σ : xM) (y : xM), f165_173 n l0 l2 σ = some y → Rn (d + 1) 165 173 [.ref l0, x1, .int l2] [] σ (none, y) := by
  intro n
  induction n with
  | zero => intro l0 l2 x1 σ y h; cases h
  | succ n ih =>
    intro l0 l2 x1 σ y h
    unfold f165_173 at h
    refine rn_steps 2 175 [.ref l0, x1, .int l2] [.ref l0, .ref l0] rfl ?_
    obtain ⟨v1, hv1, h⟩ := Option.bind_eq_some_iff.mp h
    refine rn_gI (c := 9) (f := 8) rfl rfl ⟨⟨rfl, rfl⟩, Or.inl rfl⟩ hv1 ?_
    refine rn_steps 0 178 [.ref l0, x1, .int l2] [.int v1, .ref l0] rfl ?_
    obtain ⟨u9, hu9, h⟩ := Option.bind_eq_some_iff.mp h
    obtain ⟨y2, hy2, h⟩ := Option.bind_eq_some_iff.mp h
    refine rn_callV [.int v1] rfl rfl ⟨rfl, rfl⟩ hu9 rfl rfl (e161 d hy2) ?_
    refine rn_steps 0 181 [.ref l0, x1, .int l2] [.int y2.1] rfl ?_
    obtain ⟨y3, hy3, h⟩ := Option.bind_eq_some_iff.mp h
    refine rn_callS [.int y2.1] rfl rfl rfl ⟨rfl, rfl, rfl⟩ rfl rfl (e163 d hy3) ?_
    refine rn_steps 0 184 [.ref l0, x1, .int l2] [.int y3.1] rfl ?_
    refine rn_br (c := y3.1 = 0) rfl rfl decide_eq_true_iff (fun hb => ?_) (fun hb => ?_)
    · rw [if_pos hb] at h
      refine rn_steps 0 231 [.ref l0, x1, .int l2] [] rfl ?_
      exact e165_231 d _ _ _ _ _ h
    · rw [if_neg hb] at h
      refine rn_steps 2 189 [.ref l0, x1, .int l2] [.int 3, .int l2] rfl ?_
      refine rn_br (c := 3 ≤ l2) rfl rfl decide_eq_true_iff (fun hb => ?_) (fun hb => ?_)
      · rw [if_pos hb] at h
        refine rn_steps 0 215 [.ref l0, x1, .int l2] [] rfl ?_
        exact e165_215 d _ ih _ _ _ _ _ h
      · rw [if_neg hb] at h
        refine rn_steps 3 196 [.ref l0, x1, .int l2] [.ref l0, .int 10, .ref l0] rfl ?_
        obtain ⟨v4, hv4, h⟩ := Option.bind_eq_some_iff.mp h
        refine rn_gI (c := 9) (f := 11) rfl rfl ⟨⟨rfl, rfl⟩, Or.inl rfl⟩ hv4 ?_
        refine rn_steps 3 202 [.ref l0, x1, .int l2] [.ref l0, .ref l0, .int (10 * v4), .ref l0] rfl ?_
        obtain ⟨v5, hv5, h⟩ := Option.bind_eq_some_iff.mp h
        refine rn_gI (c := 9) (f := 8) rfl rfl ⟨⟨rfl, rfl⟩, Or.inl rfl⟩ hv5 ?_
        refine rn_steps 0 205 [.ref l0, x1, .int l2] [.int v5, .ref l0, .int (10 * v4), .ref l0] rfl ?_
        obtain ⟨u8, hu8, h⟩ := Option.bind_eq_some_iff.mp h
        obtain ⟨y6, hy6, h⟩ := Option.bind_eq_some_iff.mp h
        refine rn_callV [.int v5] rfl rfl ⟨rfl, rfl⟩ hu8 rfl rfl (e161 d hy6) ?_
        refine rn_steps 3 212 [.ref l0, x1, .int l2] [.int (((10 * v4) + y6.1) - 48), .ref l0] rfl ?_
        obtain ⟨σ7, hσ7, h⟩ := Option.bind_eq_some_iff.mp h
        refine rn_pI (c := 9) (f := 11) rfl rfl ⟨⟨rfl, rfl⟩, rfl⟩ hσ7 ?_
        refine rn_steps 0 215 [.ref l0, x1, .int l2] [] rfl ?_
        exact e165_215 d _ ih _ _ _ _ _ h
noncomputable def f165_147 (l0 : Nat) (l2 : Int32) (σ : xM) : Option xM :=
  if 8 < l2 then
  f165_265 σ
  else
  (pI σ l0 9 9 2).bind fun σ1 =>
  f165_265 σ1
set_option maxRecDepth 20000 in
set_option maxHeartbeats 1000000 in
theorem e165_147 (d : Nat) (l0 : Nat) (l2 : Int32) (x1 : Value) (σ : xM) (y : xM) (h : f165_147 l0 l2 σ = some y) : Rn (d + 1) 165 147 [.ref l0, x1, .int l2] [] σ (none, y) := by
  unfold f165_147 at h
  refine rn_steps 2 150 [.ref l0, x1, .int l2] [.int 8, .int l2] rfl ?_
  refine rn_br (c := 8 < l2) rfl rfl decide_eq_true_iff (fun hb => ?_) (fun hb => ?_)
  · rw [if_pos hb] at h
    refine rn_steps 0 265 [.ref l0, x1, .int l2] [] rfl ?_
    exact e165_265 d _ _ _ _ _ h
  · rw [if_neg hb] at h
    refine rn_steps 2 155 [.ref l0, x1, .int l2] [.int 2, .ref l0] rfl ?_
    obtain ⟨σ1, hσ1, h⟩ := Option.bind_eq_some_iff.mp h
    refine rn_pI (c := 9) (f := 9) rfl rfl ⟨⟨rfl, rfl⟩, rfl⟩ hσ1 ?_
    refine rn_steps 1 265 [.ref l0, x1, .int l2] [] rfl ?_
    exact e165_265 d _ _ _ _ _ h
noncomputable def f165_131 (K84 : Nat → Int32 → xM → Option xM) (l0 : Nat) (l2 : Int32) (σ : xM) : Option xM :=
  (gI σ l0 9 8).bind fun v1 =>
  (pI σ l0 9 8 (v1 + 1)).bind fun σ2 =>
  K84 l0 (l2 + 1) σ2
set_option maxRecDepth 20000 in
set_option maxHeartbeats 1000000 in
theorem e165_131 (d : Nat) (K84 : Nat → Int32 → xM → Option xM) (hK84 : ∀ (l0 : Nat) (l2 : Int32) (x1 : Value) (σ : xM) (y : xM), K84 l0 l2 σ = some y → Rn (d + 1) 165 84 [.ref l0, x1, .int l2] [] σ (none, y)) (l0 : Nat) (l2 : Int32) (x1 : Value) (σ : xM) (y : xM) (h : f165_131 K84 l0 l2 σ = some y) : Rn (d + 1) 165 131 [.ref l0, x1, .int l2] [] σ (none, y) := by
  unfold f165_131 at h
  refine rn_steps 3 136 [.ref l0, x1, .int (l2 + 1)] [.ref l0, .ref l0] rfl ?_
  obtain ⟨v1, hv1, h⟩ := Option.bind_eq_some_iff.mp h
  refine rn_gI (c := 9) (f := 8) rfl rfl ⟨⟨rfl, rfl⟩, Or.inl rfl⟩ hv1 ?_
  refine rn_steps 2 141 [.ref l0, x1, .int (l2 + 1)] [.int (v1 + 1), .ref l0] rfl ?_
  obtain ⟨σ2, hσ2, h⟩ := Option.bind_eq_some_iff.mp h
  refine rn_pI (c := 9) (f := 8) rfl rfl ⟨⟨rfl, rfl⟩, rfl⟩ hσ2 ?_
  refine rn_steps 1 84 [.ref l0, x1, .int (l2 + 1)] [] rfl ?_
  exact hK84 _ _ _ _ _ h
noncomputable def f165_84 : Nat → Nat → Int32 → xM → Option xM
  | 0, _, _, _ => none
  | n + 1, l0, l2, σ =>
    (gI σ l0 9 8).bind fun v1 =>
    (cO σ l0 9).bind fun u9 =>
    (f161 l0 v1 σ).bind fun y2 =>
    (f162 y2.1 y2.2).bind fun y3 =>
    if y3.1 = 0 then
    f165_147 l0 l2 y3.2
    else
    if 8 ≤ l2 then
    f165_131 (f165_84 n) l0 l2 y3.2
    else
    (gJ y3.2 l0 9 14).bind fun v4 =>
    (gI y3.2 l0 9 8).bind fun v5 =>
    (cO y3.2 l0 9).bind fun u8 =>
    (f161 l0 v5 y3.2).bind fun y6 =>
    (pJ y6.2 l0 9 14 ((32 * v4) + (((y6.1 - 97) + 1).toInt64))).bind fun σ7 =>
    f165_131 (f165_84 n) l0 l2 σ7
set_option maxRecDepth 20000 in
set_option maxHeartbeats 1000000 in
theorem e165_84 (d : Nat) : ∀ (n : Nat) (l0 : Nat) (l2 : Int32) (x1 : Value) (σ : xM) (y : xM), f165_84 n l0 l2 σ = some y → Rn (d + 1) 165 84 [.ref l0, x1, .int l2] [] σ (none, y) := by
  intro n
  induction n with
  | zero => intro l0 l2 x1 σ y h; cases h
  | succ n ih =>
    intro l0 l2 x1 σ y h
    unfold f165_84 at h
    refine rn_steps 2 86 [.ref l0, x1, .int l2] [.ref l0, .ref l0] rfl ?_
    obtain ⟨v1, hv1, h⟩ := Option.bind_eq_some_iff.mp h
    refine rn_gI (c := 9) (f := 8) rfl rfl ⟨⟨rfl, rfl⟩, Or.inl rfl⟩ hv1 ?_
    refine rn_steps 0 89 [.ref l0, x1, .int l2] [.int v1, .ref l0] rfl ?_
    obtain ⟨u9, hu9, h⟩ := Option.bind_eq_some_iff.mp h
    obtain ⟨y2, hy2, h⟩ := Option.bind_eq_some_iff.mp h
    refine rn_callV [.int v1] rfl rfl ⟨rfl, rfl⟩ hu9 rfl rfl (e161 d hy2) ?_
    refine rn_steps 0 92 [.ref l0, x1, .int l2] [.int y2.1] rfl ?_
    obtain ⟨y3, hy3, h⟩ := Option.bind_eq_some_iff.mp h
    refine rn_callS [.int y2.1] rfl rfl rfl ⟨rfl, rfl, rfl⟩ rfl rfl (e162 d hy3) ?_
    refine rn_steps 0 95 [.ref l0, x1, .int l2] [.int y3.1] rfl ?_
    refine rn_br (c := y3.1 = 0) rfl rfl decide_eq_true_iff (fun hb => ?_) (fun hb => ?_)
    · rw [if_pos hb] at h
      refine rn_steps 0 147 [.ref l0, x1, .int l2] [] rfl ?_
      exact e165_147 d _ _ _ _ _ h
    · rw [if_neg hb] at h
      refine rn_steps 2 101 [.ref l0, x1, .int l2] [.int 8, .int l2] rfl ?_
      refine rn_br (c := 8 ≤ l2) rfl rfl decide_eq_true_iff (fun hb => ?_) (fun hb => ?_)
      · rw [if_pos hb] at h
        refine rn_steps 0 131 [.ref l0, x1, .int l2] [] rfl ?_
        exact e165_131 d _ ih _ _ _ _ _ h
      · rw [if_neg hb] at h
        refine rn_steps 3 109 [.ref l0, x1, .int l2] [.ref l0, .long 32, .ref l0] rfl ?_
        obtain ⟨v4, hv4, h⟩ := Option.bind_eq_some_iff.mp h
        refine rn_gJ (c := 9) (f := 14) rfl rfl ⟨⟨rfl, rfl⟩, rfl⟩ hv4 ?_
        refine rn_steps 3 115 [.ref l0, x1, .int l2] [.ref l0, .ref l0, .long (32 * v4), .ref l0] rfl ?_
        obtain ⟨v5, hv5, h⟩ := Option.bind_eq_some_iff.mp h
        refine rn_gI (c := 9) (f := 8) rfl rfl ⟨⟨rfl, rfl⟩, Or.inl rfl⟩ hv5 ?_
        refine rn_steps 0 118 [.ref l0, x1, .int l2] [.int v5, .ref l0, .long (32 * v4), .ref l0] rfl ?_
        obtain ⟨u8, hu8, h⟩ := Option.bind_eq_some_iff.mp h
        obtain ⟨y6, hy6, h⟩ := Option.bind_eq_some_iff.mp h
        refine rn_callV [.int v5] rfl rfl ⟨rfl, rfl⟩ hu8 rfl rfl (e161 d hy6) ?_
        refine rn_steps 6 128 [.ref l0, x1, .int l2] [.long ((32 * v4) + (((y6.1 - 97) + 1).toInt64)), .ref l0] rfl ?_
        obtain ⟨σ7, hσ7, h⟩ := Option.bind_eq_some_iff.mp h
        refine rn_pJ (c := 9) (f := 14) rfl rfl ⟨⟨rfl, rfl⟩, rfl⟩ hσ7 ?_
        refine rn_steps 0 131 [.ref l0, x1, .int l2] [] rfl ?_
        exact e165_131 d _ ih _ _ _ _ _ h
noncomputable def f165_35 (l0 : Nat) (σ : xM) : Option xM :=
  (gI σ l0 9 8).bind fun v1 =>
  (pI σ l0 9 10 v1).bind fun σ2 =>
  (pI σ2 l0 9 9 0).bind fun σ3 =>
  (gI σ3 l0 9 8).bind fun v4 =>
  (cO σ3 l0 9).bind fun u14 =>
  (f161 l0 v4 σ3).bind fun y5 =>
  if y5.1 = (-1) then
  (pI y5.2 l0 9 9 1).bind fun σ13 =>
  f165_265 σ13
  else
  (f162 y5.1 y5.2).bind fun y6 =>
  if y6.1 = 0 then
  (f163 y5.1 y6.2).bind fun y7 =>
  if y7.1 = 0 then
  if y5.1 = 59 then
  (pI y7.2 l0 9 9 4).bind fun σ8 =>
  (gI σ8 l0 9 8).bind fun v9 =>
  (pI σ8 l0 9 8 (v9 + 1)).bind fun σ10 =>
  f165_265 σ10
  else
  f165_265 y7.2
  else
  (pI y7.2 l0 9 11 0).bind fun σ11 =>
  f165_173 1100 l0 0 σ11
  else
  (pJ y6.2 l0 9 14 0).bind fun σ12 =>
  f165_84 1100 l0 0 σ12
set_option maxRecDepth 20000 in
set_option maxHeartbeats 1000000 in
theorem e165_35 (d : Nat) (l0 : Nat) (x1 x2 : Value) (σ : xM) (y : xM) (h : f165_35 l0 σ = some y) : Rn (d + 1) 165 35 [.ref l0, x1, x2] [] σ (none, y) := by
  unfold f165_35 at h
  refine rn_steps 2 37 [.ref l0, x1, x2] [.ref l0, .ref l0] rfl ?_
  obtain ⟨v1, hv1, h⟩ := Option.bind_eq_some_iff.mp h
  refine rn_gI (c := 9) (f := 8) rfl rfl ⟨⟨rfl, rfl⟩, Or.inl rfl⟩ hv1 ?_
  refine rn_steps 0 40 [.ref l0, x1, x2] [.int v1, .ref l0] rfl ?_
  obtain ⟨σ2, hσ2, h⟩ := Option.bind_eq_some_iff.mp h
  refine rn_pI (c := 9) (f := 10) rfl rfl ⟨⟨rfl, rfl⟩, rfl⟩ hσ2 ?_
  refine rn_steps 2 45 [.ref l0, x1, x2] [.int 0, .ref l0] rfl ?_
  obtain ⟨σ3, hσ3, h⟩ := Option.bind_eq_some_iff.mp h
  refine rn_pI (c := 9) (f := 9) rfl rfl ⟨⟨rfl, rfl⟩, rfl⟩ hσ3 ?_
  refine rn_steps 2 50 [.ref l0, x1, x2] [.ref l0, .ref l0] rfl ?_
  obtain ⟨v4, hv4, h⟩ := Option.bind_eq_some_iff.mp h
  refine rn_gI (c := 9) (f := 8) rfl rfl ⟨⟨rfl, rfl⟩, Or.inl rfl⟩ hv4 ?_
  refine rn_steps 0 53 [.ref l0, x1, x2] [.int v4, .ref l0] rfl ?_
  obtain ⟨u14, hu14, h⟩ := Option.bind_eq_some_iff.mp h
  obtain ⟨y5, hy5, h⟩ := Option.bind_eq_some_iff.mp h
  refine rn_callV [.int v4] rfl rfl ⟨rfl, rfl⟩ hu14 rfl rfl (e161 d hy5) ?_
  refine rn_steps 5 61 [.ref l0, .int y5.1, .int 0] [.int (-1), .int y5.1] rfl ?_
  refine rn_br (c := ¬ y5.1 = (-1)) rfl rfl decide_eq_true_iff (fun hb => ?_) (fun hb => ?_)
  · rw [if_neg hb] at h
    refine rn_steps 1 73 [.ref l0, .int y5.1, .int 0] [.int y5.1] rfl ?_
    obtain ⟨y6, hy6, h⟩ := Option.bind_eq_some_iff.mp h
    refine rn_callS [.int y5.1] rfl rfl rfl ⟨rfl, rfl, rfl⟩ rfl rfl (e162 d hy6) ?_
    refine rn_steps 0 76 [.ref l0, .int y5.1, .int 0] [.int y6.1] rfl ?_
    refine rn_br (c := y6.1 = 0) rfl rfl decide_eq_true_iff (fun hb => ?_) (fun hb => ?_)
    · rw [if_pos hb] at h
      refine rn_steps 1 162 [.ref l0, .int y5.1, .int 0] [.int y5.1] rfl ?_
      obtain ⟨y7, hy7, h⟩ := Option.bind_eq_some_iff.mp h
      refine rn_callS [.int y5.1] rfl rfl rfl ⟨rfl, rfl, rfl⟩ rfl rfl (e163 d hy7) ?_
      refine rn_steps 0 165 [.ref l0, .int y5.1, .int 0] [.int y7.1] rfl ?_
      refine rn_br (c := y7.1 = 0) rfl rfl decide_eq_true_iff (fun hb => ?_) (fun hb => ?_)
      · rw [if_pos hb] at h
        refine rn_steps 2 247 [.ref l0, .int y5.1, .int 0] [.int 59, .int y5.1] rfl ?_
        refine rn_br (c := ¬ y5.1 = 59) rfl rfl decide_eq_true_iff (fun hb => ?_) (fun hb => ?_)
        · rw [if_neg hb] at h
          refine rn_steps 0 265 [.ref l0, .int y5.1, .int 0] [] rfl ?_
          exact e165_265 d _ _ _ _ _ h
        · rw [if_pos (Decidable.not_not.mp hb)] at h
          refine rn_steps 2 252 [.ref l0, .int y5.1, .int 0] [.int 4, .ref l0] rfl ?_
          obtain ⟨σ8, hσ8, h⟩ := Option.bind_eq_some_iff.mp h
          refine rn_pI (c := 9) (f := 9) rfl rfl ⟨⟨rfl, rfl⟩, rfl⟩ hσ8 ?_
          refine rn_steps 2 257 [.ref l0, .int y5.1, .int 0] [.ref l0, .ref l0] rfl ?_
          obtain ⟨v9, hv9, h⟩ := Option.bind_eq_some_iff.mp h
          refine rn_gI (c := 9) (f := 8) rfl rfl ⟨⟨rfl, rfl⟩, Or.inl rfl⟩ hv9 ?_
          refine rn_steps 2 262 [.ref l0, .int y5.1, .int 0] [.int (v9 + 1), .ref l0] rfl ?_
          obtain ⟨σ10, hσ10, h⟩ := Option.bind_eq_some_iff.mp h
          refine rn_pI (c := 9) (f := 8) rfl rfl ⟨⟨rfl, rfl⟩, rfl⟩ hσ10 ?_
          refine rn_steps 0 265 [.ref l0, .int y5.1, .int 0] [] rfl ?_
          exact e165_265 d _ _ _ _ _ h
      · rw [if_neg hb] at h
        refine rn_steps 2 170 [.ref l0, .int y5.1, .int 0] [.int 0, .ref l0] rfl ?_
        obtain ⟨σ11, hσ11, h⟩ := Option.bind_eq_some_iff.mp h
        refine rn_pI (c := 9) (f := 11) rfl rfl ⟨⟨rfl, rfl⟩, rfl⟩ hσ11 ?_
        refine rn_steps 0 173 [.ref l0, .int y5.1, .int 0] [] rfl ?_
        exact e165_173 d 1100 _ _ _ _ _ h
    · rw [if_neg hb] at h
      refine rn_steps 2 81 [.ref l0, .int y5.1, .int 0] [.long 0, .ref l0] rfl ?_
      obtain ⟨σ12, hσ12, h⟩ := Option.bind_eq_some_iff.mp h
      refine rn_pJ (c := 9) (f := 14) rfl rfl ⟨⟨rfl, rfl⟩, rfl⟩ hσ12 ?_
      refine rn_steps 0 84 [.ref l0, .int y5.1, .int 0] [] rfl ?_
      exact e165_84 d 1100 _ _ _ _ _ h
  · rw [if_pos (Decidable.not_not.mp hb)] at h
    refine rn_steps 2 66 [.ref l0, .int y5.1, .int 0] [.int 1, .ref l0] rfl ?_
    obtain ⟨σ13, hσ13, h⟩ := Option.bind_eq_some_iff.mp h
    refine rn_pI (c := 9) (f := 9) rfl rfl ⟨⟨rfl, rfl⟩, rfl⟩ hσ13 ?_
    refine rn_steps 1 265 [.ref l0, .int y5.1, .int 0] [] rfl ?_
    exact e165_265 d _ _ _ _ _ h
noncomputable def f165_9 : Nat → Nat → xM → Option xM
  | 0, _, _ => none
  | n + 1, l0, σ =>
    (gI σ l0 9 8).bind fun v1 =>
    (cO σ l0 9).bind fun u5 =>
    (f161 l0 v1 σ).bind fun y2 =>
    if y2.1 = 32 then
    (gI y2.2 l0 9 8).bind fun v3 =>
    (pI y2.2 l0 9 8 (v3 + 1)).bind fun σ4 =>
    (f165_9 n) l0 σ4
    else
    f165_35 l0 y2.2
set_option maxRecDepth 20000 in
set_option maxHeartbeats 1000000 in
theorem e165_9 (d : Nat) : ∀ (n : Nat) (l0 : Nat) (x1 x2 : Value) (σ : xM) (y : xM), f165_9 n l0 σ = some y → Rn (d + 1) 165 9 [.ref l0, x1, x2] [] σ (none, y) := by
  intro n
  induction n with
  | zero => intro l0 x1 x2 σ y h; cases h
  | succ n ih =>
    intro l0 x1 x2 σ y h
    unfold f165_9 at h
    refine rn_steps 2 11 [.ref l0, x1, x2] [.ref l0, .ref l0] rfl ?_
    obtain ⟨v1, hv1, h⟩ := Option.bind_eq_some_iff.mp h
    refine rn_gI (c := 9) (f := 8) rfl rfl ⟨⟨rfl, rfl⟩, Or.inl rfl⟩ hv1 ?_
    refine rn_steps 0 14 [.ref l0, x1, x2] [.int v1, .ref l0] rfl ?_
    obtain ⟨u5, hu5, h⟩ := Option.bind_eq_some_iff.mp h
    obtain ⟨y2, hy2, h⟩ := Option.bind_eq_some_iff.mp h
    refine rn_callV [.int v1] rfl rfl ⟨rfl, rfl⟩ hu5 rfl rfl (e161 d hy2) ?_
    refine rn_steps 1 19 [.ref l0, x1, x2] [.int 32, .int y2.1] rfl ?_
    refine rn_br (c := ¬ y2.1 = 32) rfl rfl decide_eq_true_iff (fun hb => ?_) (fun hb => ?_)
    · rw [if_neg hb] at h
      refine rn_steps 0 35 [.ref l0, x1, x2] [] rfl ?_
      exact e165_35 d _ _ _ _ _ h
    · rw [if_pos (Decidable.not_not.mp hb)] at h
      refine rn_steps 2 24 [.ref l0, x1, x2] [.ref l0, .ref l0] rfl ?_
      obtain ⟨v3, hv3, h⟩ := Option.bind_eq_some_iff.mp h
      refine rn_gI (c := 9) (f := 8) rfl rfl ⟨⟨rfl, rfl⟩, Or.inl rfl⟩ hv3 ?_
      refine rn_steps 2 29 [.ref l0, x1, x2] [.int (v3 + 1), .ref l0] rfl ?_
      obtain ⟨σ4, hσ4, h⟩ := Option.bind_eq_some_iff.mp h
      refine rn_pI (c := 9) (f := 8) rfl rfl ⟨⟨rfl, rfl⟩, rfl⟩ hσ4 ?_
      refine rn_steps 1 9 [.ref l0, x1, x2] [] rfl ?_
      exact ih _ _ _ _ _ h
/-- LastAskedModel.goesOn()V -/
noncomputable def f165 (l0 : Nat) (σ : xM) : Option xM :=
  (gI σ l0 9 9).bind fun v1 =>
  if v1 = 5 then
  some σ
  else
  f165_9 1100 l0 σ
set_option maxRecDepth 20000 in
set_option maxHeartbeats 1000000 in
theorem e165 (d : Nat) {l0 : Nat} {σ : xM} {y : xM} (h : f165 l0 σ = some y) : Rn (d + 1) 165 0 [.ref l0, .retAddr 0, .retAddr 0] [] σ (none, y) := by
  unfold f165 at h
  refine rn_steps 1 1 [.ref l0, .retAddr 0, .retAddr 0] [.ref l0] rfl ?_
  obtain ⟨v1, hv1, h⟩ := Option.bind_eq_some_iff.mp h
  refine rn_gI (c := 9) (f := 9) rfl rfl ⟨⟨rfl, rfl⟩, Or.inl rfl⟩ hv1 ?_
  refine rn_steps 1 5 [.ref l0, .retAddr 0, .retAddr 0] [.int 5, .int v1] rfl ?_
  refine rn_br (c := ¬ v1 = 5) rfl rfl decide_eq_true_iff (fun hb => ?_) (fun hb => ?_)
  · rw [if_neg hb] at h
    refine rn_steps 0 9 [.ref l0, .retAddr 0, .retAddr 0] [] rfl ?_
    exact e165_9 d 1100 _ _ _ _ _ h
  · rw [if_pos (Decidable.not_not.mp hb)] at h
    refine rn_steps 0 8 [.ref l0, .retAddr 0, .retAddr 0] [] rfl ?_
    cases h
    exact rn_ret rfl rfl rfl
/-- LastAskedModel.flaw(I)V -/
noncomputable def f166 (l0 : Nat) (l1 : Int32) (σ : xM) : Option xM :=
  (gI σ l0 9 9).bind fun v1 =>
  if v1 = 5 then
  some σ
  else
  (pI σ l0 9 12 l1).bind fun σ2 =>
  (gI σ2 l0 9 10).bind fun v3 =>
  (pI σ2 l0 9 13 v3).bind fun σ4 =>
  (pI σ4 l0 9 9 5).bind fun σ5 =>
  some σ5
set_option maxRecDepth 20000 in
set_option maxHeartbeats 1000000 in
theorem e166 (d : Nat) {l0 : Nat} {l1 : Int32} {σ : xM} {y : xM} (h : f166 l0 l1 σ = some y) : Rn (d + 0) 166 0 [.ref l0, .int l1] [] σ (none, y) := by
  unfold f166 at h
  refine rn_steps 1 1 [.ref l0, .int l1] [.ref l0] rfl ?_
  obtain ⟨v1, hv1, h⟩ := Option.bind_eq_some_iff.mp h
  refine rn_gI (c := 9) (f := 9) rfl rfl ⟨⟨rfl, rfl⟩, Or.inl rfl⟩ hv1 ?_
  refine rn_steps 1 5 [.ref l0, .int l1] [.int 5, .int v1] rfl ?_
  refine rn_br (c := ¬ v1 = 5) rfl rfl decide_eq_true_iff (fun hb => ?_) (fun hb => ?_)
  · rw [if_neg hb] at h
    refine rn_steps 2 11 [.ref l0, .int l1] [.int l1, .ref l0] rfl ?_
    obtain ⟨σ2, hσ2, h⟩ := Option.bind_eq_some_iff.mp h
    refine rn_pI (c := 9) (f := 12) rfl rfl ⟨⟨rfl, rfl⟩, rfl⟩ hσ2 ?_
    refine rn_steps 2 16 [.ref l0, .int l1] [.ref l0, .ref l0] rfl ?_
    obtain ⟨v3, hv3, h⟩ := Option.bind_eq_some_iff.mp h
    refine rn_gI (c := 9) (f := 10) rfl rfl ⟨⟨rfl, rfl⟩, Or.inl rfl⟩ hv3 ?_
    refine rn_steps 0 19 [.ref l0, .int l1] [.int v3, .ref l0] rfl ?_
    obtain ⟨σ4, hσ4, h⟩ := Option.bind_eq_some_iff.mp h
    refine rn_pI (c := 9) (f := 13) rfl rfl ⟨⟨rfl, rfl⟩, rfl⟩ hσ4 ?_
    refine rn_steps 2 24 [.ref l0, .int l1] [.int 5, .ref l0] rfl ?_
    obtain ⟨σ5, hσ5, h⟩ := Option.bind_eq_some_iff.mp h
    refine rn_pI (c := 9) (f := 9) rfl rfl ⟨⟨rfl, rfl⟩, rfl⟩ hσ5 ?_
    refine rn_steps 0 27 [.ref l0, .int l1] [] rfl ?_
    cases h
    exact rn_ret rfl rfl rfl
  · rw [if_pos (Decidable.not_not.mp hb)] at h
    refine rn_steps 0 8 [.ref l0, .int l1] [] rfl ?_
    cases h
    exact rn_ret rfl rfl rfl
noncomputable def f167_25 (s0 : Int32) (σ : xM) : Option (Int32 × xM) :=
  rZ s0 σ
set_option maxRecDepth 20000 in
set_option maxHeartbeats 1000000 in
theorem e167_25 (d : Nat) (s0 : Int32) (x0 x1 : Value) (σ : xM) (y : Int32 × xM) (h : f167_25 s0 σ = some y) : Rn (d + 6) 167 25 [x0, x1] [.int s0] σ (some (.int y.1), y.2) := by
  unfold f167_25 at h
  exact rn_retZ rfl rfl h
noncomputable def f167_24 (σ : xM) : Option (Int32 × xM) :=
  f167_25 0 σ
set_option maxRecDepth 20000 in
set_option maxHeartbeats 1000000 in
theorem e167_24 (d : Nat) (x0 x1 : Value) (σ : xM) (y : Int32 × xM) (h : f167_24 σ = some y) : Rn (d + 6) 167 24 [x0, x1] [] σ (some (.int y.1), y.2) := by
  unfold f167_24 at h
  refine rn_steps 1 25 [x0, x1] [.int 0] rfl ?_
  exact e167_25 d _ _ _ _ _ h
/-- LastAskedModel.isWord(Ljava/lang/String;)Z -/
noncomputable def f167 (l0 : Nat) (l1 : UInt32) (σ : xM) : Option (Int32 × xM) :=
  (gI σ l0 9 9).bind fun v1 =>
  if v1 = 2 then
  (gJ σ l0 9 14).bind fun v2 =>
  (xpk l1).bind fun v3 =>
  if (lg_cmp v2 v3) = 0 then
  f167_25 1 σ
  else
  f167_24 σ
  else
  f167_24 σ
set_option maxRecDepth 20000 in
set_option maxHeartbeats 1000000 in
theorem e167 (d : Nat) {l0 : Nat} {l1 : UInt32} {σ : xM} {y : Int32 × xM} (h : f167 l0 l1 σ = some y) : Rn (d + 6) 167 0 [.ref l0, .float l1] [] σ (some (.int y.1), y.2) := by
  unfold f167 at h
  refine rn_steps 1 1 [.ref l0, .float l1] [.ref l0] rfl ?_
  obtain ⟨v1, hv1, h⟩ := Option.bind_eq_some_iff.mp h
  refine rn_gI (c := 9) (f := 9) rfl rfl ⟨⟨rfl, rfl⟩, Or.inl rfl⟩ hv1 ?_
  refine rn_steps 1 5 [.ref l0, .float l1] [.int 2, .int v1] rfl ?_
  refine rn_br (c := ¬ v1 = 2) rfl rfl decide_eq_true_iff (fun hb => ?_) (fun hb => ?_)
  · rw [if_neg hb] at h
    refine rn_steps 0 24 [.ref l0, .float l1] [] rfl ?_
    exact e167_24 d _ _ _ _ h
  · rw [if_pos (Decidable.not_not.mp hb)] at h
    refine rn_steps 1 9 [.ref l0, .float l1] [.ref l0] rfl ?_
    obtain ⟨v2, hv2, h⟩ := Option.bind_eq_some_iff.mp h
    refine rn_gJ (c := 9) (f := 14) rfl rfl ⟨⟨rfl, rfl⟩, rfl⟩ hv2 ?_
    refine rn_steps 1 13 [.ref l0, .float l1] [.float l1, .long v2] rfl ?_
    obtain ⟨v3, hv3, h⟩ := Option.bind_eq_some_iff.mp h
    refine rn_callP rfl hv3 rfl ?_
    refine rn_steps 1 17 [.ref l0, .float l1] [.int (lg_cmp v2 v3)] rfl ?_
    refine rn_br (c := ¬ (lg_cmp v2 v3) = 0) rfl rfl decide_eq_true_iff (fun hb => ?_) (fun hb => ?_)
    · rw [if_neg hb] at h
      refine rn_steps 0 24 [.ref l0, .float l1] [] rfl ?_
      exact e167_24 d _ _ _ _ h
    · rw [if_pos (Decidable.not_not.mp hb)] at h
      refine rn_steps 2 25 [.ref l0, .float l1] [.int 1] rfl ?_
      exact e167_25 d _ _ _ _ _ h
noncomputable def f168_22 (l1 : Int32) (σ : xM) : Option (Int32 × xM) :=
  rZ l1 σ
set_option maxRecDepth 20000 in
set_option maxHeartbeats 1000000 in
theorem e168_22 (d : Nat) (l1 : Int32) (x0 : Value) (σ : xM) (y : Int32 × xM) (h : f168_22 l1 σ = some y) : Rn (d + 2) 168 22 [x0, .int l1] [] σ (some (.int y.1), y.2) := by
  unfold f168_22 at h
  refine rn_steps 1 23 [x0, .int l1] [.int l1] rfl ?_
  exact rn_retZ rfl rfl h
noncomputable def f168_13 (l0 : Nat) (s0 : Int32) (σ : xM) : Option (Int32 × xM) :=
  if s0 = 0 then
  f168_22 s0 σ
  else
  (cO σ l0 9).bind fun u2 =>
  (f165 l0 σ).bind fun y1 =>
  f168_22 s0 y1
set_option maxRecDepth 20000 in
set_option maxHeartbeats 1000000 in
theorem e168_13 (d : Nat) (l0 : Nat) (s0 : Int32) (x1 : Value) (σ : xM) (y : Int32 × xM) (h : f168_13 l0 s0 σ = some y) : Rn (d + 2) 168 13 [.ref l0, x1] [.int s0] σ (some (.int y.1), y.2) := by
  unfold f168_13 at h
  refine rn_steps 2 15 [.ref l0, .int s0] [.int s0] rfl ?_
  refine rn_br (c := s0 = 0) rfl rfl decide_eq_true_iff (fun hb => ?_) (fun hb => ?_)
  · rw [if_pos hb] at h
    refine rn_steps 0 22 [.ref l0, .int s0] [] rfl ?_
    exact e168_22 d _ _ _ _ h
  · rw [if_neg hb] at h
    refine rn_steps 1 19 [.ref l0, .int s0] [.ref l0] rfl ?_
    obtain ⟨u2, hu2, h⟩ := Option.bind_eq_some_iff.mp h
    obtain ⟨y1, hy1, h⟩ := Option.bind_eq_some_iff.mp h
    refine rn_callV [] rfl rfl ⟨rfl, rfl⟩ hu2 rfl rfl (e165 d hy1) ?_
    refine rn_steps 0 22 [.ref l0, .int s0] [] rfl ?_
    exact e168_22 d _ _ _ _ h
/-- LastAskedModel.eatsSemicolon()Z -/
noncomputable def f168 (l0 : Nat) (σ : xM) : Option (Int32 × xM) :=
  (gI σ l0 9 9).bind fun v1 =>
  if v1 = 4 then
  f168_13 l0 1 σ
  else
  f168_13 l0 0 σ
set_option maxRecDepth 20000 in
set_option maxHeartbeats 1000000 in
theorem e168 (d : Nat) {l0 : Nat} {σ : xM} {y : Int32 × xM} (h : f168 l0 σ = some y) : Rn (d + 2) 168 0 [.ref l0, .retAddr 0] [] σ (some (.int y.1), y.2) := by
  unfold f168 at h
  refine rn_steps 1 1 [.ref l0, .retAddr 0] [.ref l0] rfl ?_
  obtain ⟨v1, hv1, h⟩ := Option.bind_eq_some_iff.mp h
  refine rn_gI (c := 9) (f := 9) rfl rfl ⟨⟨rfl, rfl⟩, Or.inl rfl⟩ hv1 ?_
  refine rn_steps 1 5 [.ref l0, .retAddr 0] [.int 4, .int v1] rfl ?_
  refine rn_br (c := ¬ v1 = 4) rfl rfl decide_eq_true_iff (fun hb => ?_) (fun hb => ?_)
  · rw [if_neg hb] at h
    refine rn_steps 1 13 [.ref l0, .retAddr 0] [.int 0] rfl ?_
    exact e168_13 d _ _ _ _ _ h
  · rw [if_pos (Decidable.not_not.mp hb)] at h
    refine rn_steps 2 13 [.ref l0, .retAddr 0] [.int 1] rfl ?_
    exact e168_13 d _ _ _ _ _ h
noncomputable def f169_66 (l0 : Nat) (s0 : Int32) (σ : xM) : Option (Int32 × xM) :=
  (cO σ l0 9).bind fun u2 =>
  (f165 l0 σ).bind fun y1 =>
  some (s0, y1)
set_option maxRecDepth 20000 in
set_option maxHeartbeats 1000000 in
theorem e169_66 (d : Nat) (l0 : Nat) (s0 : Int32) (x1 x2 x3 x4 : Value) (σ : xM) (y : Int32 × xM) (h : f169_66 l0 s0 σ = some y) : Rn (d + 7) 169 66 [.ref l0, x1, x2, x3, x4] [.int s0] σ (some (.int y.1), y.2) := by
  unfold f169_66 at h
  refine rn_steps 2 69 [.ref l0, x1, x2, x3, .int s0] [.ref l0] rfl ?_
  obtain ⟨u2, hu2, h⟩ := Option.bind_eq_some_iff.mp h
  obtain ⟨y1, hy1, h⟩ := Option.bind_eq_some_iff.mp h
  refine rn_callV [] rfl rfl ⟨rfl, rfl⟩ hu2 rfl rfl (e165 (d + 5) hy1) ?_
  refine rn_steps 1 74 [.ref l0, x1, x2, x3, .int s0] [.int s0] rfl ?_
  cases h
  exact rn_ret rfl rfl rfl
noncomputable def f169_50 (l0 : Nat) (l2 : Int32) (σ : xM) : Option (Int32 × xM) :=
  (gI σ l0 9 9).bind fun v1 =>
  if v1 = 5 then
  f169_66 l0 l2 σ
  else
  (gI σ l0 9 11).bind fun v2 =>
  f169_66 l0 v2 σ
set_option maxRecDepth 20000 in
set_option maxHeartbeats 1000000 in
theorem e169_50 (d : Nat) (l0 : Nat) (l2 : Int32) (x1 x3 x4 : Value) (σ : xM) (y : Int32 × xM) (h : f169_50 l0 l2 σ = some y) : Rn (d + 7) 169 50 [.ref l0, x1, .int l2, x3, x4] [] σ (some (.int y.1), y.2) := by
  unfold f169_50 at h
  refine rn_steps 1 51 [.ref l0, x1, .int l2, x3, x4] [.ref l0] rfl ?_
  obtain ⟨v1, hv1, h⟩ := Option.bind_eq_some_iff.mp h
  refine rn_gI (c := 9) (f := 9) rfl rfl ⟨⟨rfl, rfl⟩, Or.inl rfl⟩ hv1 ?_
  refine rn_steps 1 55 [.ref l0, x1, .int l2, x3, x4] [.int 5, .int v1] rfl ?_
  refine rn_br (c := ¬ v1 = 5) rfl rfl decide_eq_true_iff (fun hb => ?_) (fun hb => ?_)
  · rw [if_neg hb] at h
    refine rn_steps 1 63 [.ref l0, x1, .int l2, x3, x4] [.ref l0] rfl ?_
    obtain ⟨v2, hv2, h⟩ := Option.bind_eq_some_iff.mp h
    refine rn_gI (c := 9) (f := 11) rfl rfl ⟨⟨rfl, rfl⟩, Or.inl rfl⟩ hv2 ?_
    refine rn_steps 0 66 [.ref l0, x1, .int l2, x3, x4] [.int v2] rfl ?_
    exact e169_66 d _ _ _ _ _ _ _ _ h
  · rw [if_pos (Decidable.not_not.mp hb)] at h
    refine rn_steps 2 66 [.ref l0, x1, .int l2, x3, x4] [.int l2] rfl ?_
    exact e169_66 d _ _ _ _ _ _ _ _ h
noncomputable def f169_13 (l0 : Nat) (l2 : Int32) (l3 : Int32) (σ : xM) : Option (Int32 × xM) :=
  (cO σ l0 9).bind fun u9 =>
  (f165 l0 σ).bind fun y1 =>
  (gI y1 l0 9 9).bind fun v2 =>
  if v2 = 3 then
  (gI y1 l0 9 11).bind fun v3 =>
  (f156 v3 l2 l3 y1).bind fun y4 =>
  if y4.1 = 0 then
  (cO y4.2 l0 9).bind fun u6 =>
  (f166 l0 4 y4.2).bind fun y5 =>
  f169_50 l0 l2 y5
  else
  f169_50 l0 l2 y4.2
  else
  (cO y1 l0 9).bind fun u8 =>
  (f166 l0 1 y1).bind fun y7 =>
  f169_50 l0 l2 y7
set_option maxRecDepth 20000 in
set_option maxHeartbeats 1000000 in
theorem e169_13 (d : Nat) (l0 : Nat) (l2 : Int32) (l3 : Int32) (x1 x4 : Value) (σ : xM) (y : Int32 × xM) (h : f169_13 l0 l2 l3 σ = some y) : Rn (d + 7) 169 13 [.ref l0, x1, .int l2, .int l3, x4] [] σ (some (.int y.1), y.2) := by
  unfold f169_13 at h
  refine rn_steps 1 14 [.ref l0, x1, .int l2, .int l3, x4] [.ref l0] rfl ?_
  obtain ⟨u9, hu9, h⟩ := Option.bind_eq_some_iff.mp h
  obtain ⟨y1, hy1, h⟩ := Option.bind_eq_some_iff.mp h
  refine rn_callV [] rfl rfl ⟨rfl, rfl⟩ hu9 rfl rfl (e165 (d + 5) hy1) ?_
  refine rn_steps 1 18 [.ref l0, x1, .int l2, .int l3, x4] [.ref l0] rfl ?_
  obtain ⟨v2, hv2, h⟩ := Option.bind_eq_some_iff.mp h
  refine rn_gI (c := 9) (f := 9) rfl rfl ⟨⟨rfl, rfl⟩, Or.inl rfl⟩ hv2 ?_
  refine rn_steps 1 22 [.ref l0, x1, .int l2, .int l3, x4] [.int 3, .int v2] rfl ?_
  refine rn_br (c := v2 = 3) rfl rfl decide_eq_true_iff (fun hb => ?_) (fun hb => ?_)
  · rw [if_pos hb] at h
    refine rn_steps 1 34 [.ref l0, x1, .int l2, .int l3, x4] [.ref l0] rfl ?_
    obtain ⟨v3, hv3, h⟩ := Option.bind_eq_some_iff.mp h
    refine rn_gI (c := 9) (f := 11) rfl rfl ⟨⟨rfl, rfl⟩, Or.inl rfl⟩ hv3 ?_
    refine rn_steps 2 39 [.ref l0, x1, .int l2, .int l3, x4] [.int l3, .int l2, .int v3] rfl ?_
    obtain ⟨y4, hy4, h⟩ := Option.bind_eq_some_iff.mp h
    refine rn_callS [.int v3, .int l2, .int l3] rfl rfl rfl ⟨rfl, rfl, rfl⟩ rfl rfl (e156 (d + 6) hy4) ?_
    refine rn_steps 0 42 [.ref l0, x1, .int l2, .int l3, x4] [.int y4.1] rfl ?_
    refine rn_br (c := ¬ y4.1 = 0) rfl rfl decide_eq_true_iff (fun hb => ?_) (fun hb => ?_)
    · rw [if_neg hb] at h
      refine rn_steps 0 50 [.ref l0, x1, .int l2, .int l3, x4] [] rfl ?_
      exact e169_50 d _ _ _ _ _ _ _ h
    · rw [if_pos (Decidable.not_not.mp hb)] at h
      refine rn_steps 2 47 [.ref l0, x1, .int l2, .int l3, x4] [.int 4, .ref l0] rfl ?_
      obtain ⟨u6, hu6, h⟩ := Option.bind_eq_some_iff.mp h
      obtain ⟨y5, hy5, h⟩ := Option.bind_eq_some_iff.mp h
      refine rn_callV [.int 4] rfl rfl ⟨rfl, rfl⟩ hu6 rfl rfl (e166 (d + 6) hy5) ?_
      refine rn_steps 0 50 [.ref l0, x1, .int l2, .int l3, x4] [] rfl ?_
      exact e169_50 d _ _ _ _ _ _ _ h
  · rw [if_neg hb] at h
    refine rn_steps 2 27 [.ref l0, x1, .int l2, .int l3, x4] [.int 1, .ref l0] rfl ?_
    obtain ⟨u8, hu8, h⟩ := Option.bind_eq_some_iff.mp h
    obtain ⟨y7, hy7, h⟩ := Option.bind_eq_some_iff.mp h
    refine rn_callV [.int 1] rfl rfl ⟨rfl, rfl⟩ hu8 rfl rfl (e166 (d + 6) hy7) ?_
    refine rn_steps 1 50 [.ref l0, x1, .int l2, .int l3, x4] [] rfl ?_
    exact e169_50 d _ _ _ _ _ _ _ h
/-- LastAskedModel.readPart(Ljava/lang/String;II)I -/
noncomputable def f169 (l0 : Nat) (l1 : UInt32) (l2 : Int32) (l3 : Int32) (σ : xM) : Option (Int32 × xM) :=
  (cO σ l0 9).bind fun u4 =>
  (f167 l0 l1 σ).bind fun y1 =>
  if y1.1 = 0 then
  (cO y1.2 l0 9).bind fun u3 =>
  (f166 l0 1 y1.2).bind fun y2 =>
  f169_13 l0 l2 l3 y2
  else
  f169_13 l0 l2 l3 y1.2
set_option maxRecDepth 20000 in
set_option maxHeartbeats 1000000 in
theorem e169 (d : Nat) {l0 : Nat} {l1 : UInt32} {l2 : Int32} {l3 : Int32} {σ : xM} {y : Int32 × xM} (h : f169 l0 l1 l2 l3 σ = some y) : Rn (d + 7) 169 0 [.ref l0, .float l1, .int l2, .int l3, .retAddr 0] [] σ (some (.int y.1), y.2) := by
  unfold f169 at h
  refine rn_steps 2 2 [.ref l0, .float l1, .int l2, .int l3, .retAddr 0] [.float l1, .ref l0] rfl ?_
  obtain ⟨u4, hu4, h⟩ := Option.bind_eq_some_iff.mp h
  obtain ⟨y1, hy1, h⟩ := Option.bind_eq_some_iff.mp h
  refine rn_callV [.float l1] rfl rfl ⟨rfl, rfl⟩ hu4 rfl rfl (e167 d hy1) ?_
  refine rn_steps 0 5 [.ref l0, .float l1, .int l2, .int l3, .retAddr 0] [.int y1.1] rfl ?_
  refine rn_br (c := ¬ y1.1 = 0) rfl rfl decide_eq_true_iff (fun hb => ?_) (fun hb => ?_)
  · rw [if_neg hb] at h
    refine rn_steps 0 13 [.ref l0, .float l1, .int l2, .int l3, .retAddr 0] [] rfl ?_
    exact e169_13 d _ _ _ _ _ _ _ h
  · rw [if_pos (Decidable.not_not.mp hb)] at h
    refine rn_steps 2 10 [.ref l0, .float l1, .int l2, .int l3, .retAddr 0] [.int 1, .ref l0] rfl ?_
    obtain ⟨u3, hu3, h⟩ := Option.bind_eq_some_iff.mp h
    obtain ⟨y2, hy2, h⟩ := Option.bind_eq_some_iff.mp h
    refine rn_callV [.int 1] rfl rfl ⟨rfl, rfl⟩ hu3 rfl rfl (e166 (d + 6) hy2) ?_
    refine rn_steps 0 13 [.ref l0, .float l1, .int l2, .int l3, .retAddr 0] [] rfl ?_
    exact e169_13 d _ _ _ _ _ _ _ h
noncomputable def f170_78 (s0 : Int32) (σ : xM) : Option (Int32 × xM) :=
  rZ s0 σ
set_option maxRecDepth 20000 in
set_option maxHeartbeats 1000000 in
theorem e170_78 (d : Nat) (s0 : Int32) (x0 : Value) (σ : xM) (y : Int32 × xM) (h : f170_78 s0 σ = some y) : Rn (d + 7) 170 78 [x0] [.int s0] σ (some (.int y.1), y.2) := by
  unfold f170_78 at h
  exact rn_retZ rfl rfl h
noncomputable def f170_77 (σ : xM) : Option (Int32 × xM) :=
  f170_78 0 σ
set_option maxRecDepth 20000 in
set_option maxHeartbeats 1000000 in
theorem e170_77 (d : Nat) (x0 : Value) (σ : xM) (y : Int32 × xM) (h : f170_77 σ = some y) : Rn (d + 7) 170 77 [x0] [] σ (some (.int y.1), y.2) := by
  unfold f170_77 at h
  refine rn_steps 1 78 [x0] [.int 0] rfl ?_
  exact e170_78 d _ _ _ _ h
noncomputable def f170_44 (σ : xM) : Option (Int32 × xM) :=
  rZ 0 σ
set_option maxRecDepth 20000 in
set_option maxHeartbeats 1000000 in
theorem e170_44 (d : Nat) (x0 : Value) (σ : xM) (y : Int32 × xM) (h : f170_44 σ = some y) : Rn (d + 7) 170 44 [x0] [] σ (some (.int y.1), y.2) := by
  unfold f170_44 at h
  refine rn_steps 1 45 [x0] [.int 0] rfl ?_
  exact rn_retZ rfl rfl h
/-- LastAskedModel.isName()Z -/
noncomputable def f170 (l0 : Nat) (σ : xM) : Option (Int32 × xM) :=
  (gI σ l0 9 9).bind fun v1 =>
  if v1 = 2 then
  (cO σ l0 9).bind fun u15 =>
  (f167 l0 (UInt32.ofNat 0) σ).bind fun y2 =>
  if y2.1 = 0 then
  (cO y2.2 l0 9).bind fun u14 =>
  (f167 l0 (UInt32.ofNat 3) y2.2).bind fun y3 =>
  if y3.1 = 0 then
  (cO y3.2 l0 9).bind fun u13 =>
  (f167 l0 (UInt32.ofNat 4) y3.2).bind fun y4 =>
  if y4.1 = 0 then
  (cO y4.2 l0 9).bind fun u12 =>
  (f167 l0 (UInt32.ofNat 5) y4.2).bind fun y5 =>
  if y5.1 = 0 then
  (cO y5.2 l0 9).bind fun u11 =>
  (f167 l0 (UInt32.ofNat 6) y5.2).bind fun y6 =>
  if y6.1 = 0 then
  (cO y6.2 l0 9).bind fun u10 =>
  (f167 l0 (UInt32.ofNat 7) y6.2).bind fun y7 =>
  if y7.1 = 0 then
  (cO y7.2 l0 9).bind fun u9 =>
  (f167 l0 (UInt32.ofNat 8) y7.2).bind fun y8 =>
  if y8.1 = 0 then
  f170_78 1 y8.2
  else
  f170_77 y8.2
  else
  f170_77 y7.2
  else
  f170_77 y6.2
  else
  f170_44 y5.2
  else
  f170_44 y4.2
  else
  f170_44 y3.2
  else
  f170_44 y2.2
  else
  f170_44 σ
set_option maxRecDepth 20000 in
set_option maxHeartbeats 1000000 in
theorem e170 (d : Nat) {l0 : Nat} {σ : xM} {y : Int32 × xM} (h : f170 l0 σ = some y) : Rn (d + 7) 170 0 [.ref l0] [] σ (some (.int y.1), y.2) := by
  unfold f170 at h
  refine rn_steps 1 1 [.ref l0] [.ref l0] rfl ?_
  obtain ⟨v1, hv1, h⟩ := Option.bind_eq_some_iff.mp h
  refine rn_gI (c := 9) (f := 9) rfl rfl ⟨⟨rfl, rfl⟩, Or.inl rfl⟩ hv1 ?_
  refine rn_steps 1 5 [.ref l0] [.int 2, .int v1] rfl ?_
  refine rn_br (c := ¬ v1 = 2) rfl rfl decide_eq_true_iff (fun hb => ?_) (fun hb => ?_)
  · rw [if_neg hb] at h
    refine rn_steps 0 44 [.ref l0] [] rfl ?_
    exact e170_44 d _ _ _ h
  · rw [if_pos (Decidable.not_not.mp hb)] at h
    refine rn_steps 2 11 [.ref l0] [.float (UInt32.ofNat 0), .ref l0] rfl ?_
    obtain ⟨u15, hu15, h⟩ := Option.bind_eq_some_iff.mp h
    obtain ⟨y2, hy2, h⟩ := Option.bind_eq_some_iff.mp h
    refine rn_callV [.float (UInt32.ofNat 0)] rfl rfl ⟨rfl, rfl⟩ hu15 rfl rfl (e167 d hy2) ?_
    refine rn_steps 0 14 [.ref l0] [.int y2.1] rfl ?_
    refine rn_br (c := ¬ y2.1 = 0) rfl rfl decide_eq_true_iff (fun hb => ?_) (fun hb => ?_)
    · rw [if_neg hb] at h
      refine rn_steps 0 44 [.ref l0] [] rfl ?_
      exact e170_44 d _ _ _ h
    · rw [if_pos (Decidable.not_not.mp hb)] at h
      refine rn_steps 2 20 [.ref l0] [.float (UInt32.ofNat 3), .ref l0] rfl ?_
      obtain ⟨u14, hu14, h⟩ := Option.bind_eq_some_iff.mp h
      obtain ⟨y3, hy3, h⟩ := Option.bind_eq_some_iff.mp h
      refine rn_callV [.float (UInt32.ofNat 3)] rfl rfl ⟨rfl, rfl⟩ hu14 rfl rfl (e167 d hy3) ?_
      refine rn_steps 0 23 [.ref l0] [.int y3.1] rfl ?_
      refine rn_br (c := ¬ y3.1 = 0) rfl rfl decide_eq_true_iff (fun hb => ?_) (fun hb => ?_)
      · rw [if_neg hb] at h
        refine rn_steps 0 44 [.ref l0] [] rfl ?_
        exact e170_44 d _ _ _ h
      · rw [if_pos (Decidable.not_not.mp hb)] at h
        refine rn_steps 2 29 [.ref l0] [.float (UInt32.ofNat 4), .ref l0] rfl ?_
        obtain ⟨u13, hu13, h⟩ := Option.bind_eq_some_iff.mp h
        obtain ⟨y4, hy4, h⟩ := Option.bind_eq_some_iff.mp h
        refine rn_callV [.float (UInt32.ofNat 4)] rfl rfl ⟨rfl, rfl⟩ hu13 rfl rfl (e167 d hy4) ?_
        refine rn_steps 0 32 [.ref l0] [.int y4.1] rfl ?_
        refine rn_br (c := ¬ y4.1 = 0) rfl rfl decide_eq_true_iff (fun hb => ?_) (fun hb => ?_)
        · rw [if_neg hb] at h
          refine rn_steps 0 44 [.ref l0] [] rfl ?_
          exact e170_44 d _ _ _ h
        · rw [if_pos (Decidable.not_not.mp hb)] at h
          refine rn_steps 2 38 [.ref l0] [.float (UInt32.ofNat 5), .ref l0] rfl ?_
          obtain ⟨u12, hu12, h⟩ := Option.bind_eq_some_iff.mp h
          obtain ⟨y5, hy5, h⟩ := Option.bind_eq_some_iff.mp h
          refine rn_callV [.float (UInt32.ofNat 5)] rfl rfl ⟨rfl, rfl⟩ hu12 rfl rfl (e167 d hy5) ?_
          refine rn_steps 0 41 [.ref l0] [.int y5.1] rfl ?_
          refine rn_br (c := y5.1 = 0) rfl rfl decide_eq_true_iff (fun hb => ?_) (fun hb => ?_)
          · rw [if_pos hb] at h
            refine rn_steps 2 49 [.ref l0] [.float (UInt32.ofNat 6), .ref l0] rfl ?_
            obtain ⟨u11, hu11, h⟩ := Option.bind_eq_some_iff.mp h
            obtain ⟨y6, hy6, h⟩ := Option.bind_eq_some_iff.mp h
            refine rn_callV [.float (UInt32.ofNat 6)] rfl rfl ⟨rfl, rfl⟩ hu11 rfl rfl (e167 d hy6) ?_
            refine rn_steps 0 52 [.ref l0] [.int y6.1] rfl ?_
            refine rn_br (c := ¬ y6.1 = 0) rfl rfl decide_eq_true_iff (fun hb => ?_) (fun hb => ?_)
            · rw [if_neg hb] at h
              refine rn_steps 0 77 [.ref l0] [] rfl ?_
              exact e170_77 d _ _ _ h
            · rw [if_pos (Decidable.not_not.mp hb)] at h
              refine rn_steps 2 58 [.ref l0] [.float (UInt32.ofNat 7), .ref l0] rfl ?_
              obtain ⟨u10, hu10, h⟩ := Option.bind_eq_some_iff.mp h
              obtain ⟨y7, hy7, h⟩ := Option.bind_eq_some_iff.mp h
              refine rn_callV [.float (UInt32.ofNat 7)] rfl rfl ⟨rfl, rfl⟩ hu10 rfl rfl (e167 d hy7) ?_
              refine rn_steps 0 61 [.ref l0] [.int y7.1] rfl ?_
              refine rn_br (c := ¬ y7.1 = 0) rfl rfl decide_eq_true_iff (fun hb => ?_) (fun hb => ?_)
              · rw [if_neg hb] at h
                refine rn_steps 0 77 [.ref l0] [] rfl ?_
                exact e170_77 d _ _ _ h
              · rw [if_pos (Decidable.not_not.mp hb)] at h
                refine rn_steps 2 67 [.ref l0] [.float (UInt32.ofNat 8), .ref l0] rfl ?_
                obtain ⟨u9, hu9, h⟩ := Option.bind_eq_some_iff.mp h
                obtain ⟨y8, hy8, h⟩ := Option.bind_eq_some_iff.mp h
                refine rn_callV [.float (UInt32.ofNat 8)] rfl rfl ⟨rfl, rfl⟩ hu9 rfl rfl (e167 d hy8) ?_
                refine rn_steps 0 70 [.ref l0] [.int y8.1] rfl ?_
                refine rn_br (c := ¬ y8.1 = 0) rfl rfl decide_eq_true_iff (fun hb => ?_) (fun hb => ?_)
                · rw [if_neg hb] at h
                  refine rn_steps 0 77 [.ref l0] [] rfl ?_
                  exact e170_77 d _ _ _ h
                · rw [if_pos (Decidable.not_not.mp hb)] at h
                  refine rn_steps 2 78 [.ref l0] [.int 1] rfl ?_
                  exact e170_78 d _ _ _ _ h
          · rw [if_neg hb] at h
            refine rn_steps 0 44 [.ref l0] [] rfl ?_
            exact e170_44 d _ _ _ h
noncomputable def f171_27 (l0 : Nat) (σ : xM) : Option xM :=
  (cO σ l0 9).bind fun u2 =>
  (f165 l0 σ).bind fun y1 =>
  some y1
set_option maxRecDepth 20000 in
set_option maxHeartbeats 1000000 in
theorem e171_27 (d : Nat) (l0 : Nat) (x1 x2 : Value) (σ : xM) (y : xM) (h : f171_27 l0 σ = some y) : Rn (d + 2) 171 27 [.ref l0, x1, x2] [] σ (none, y) := by
  unfold f171_27 at h
  refine rn_steps 1 28 [.ref l0, x1, x2] [.ref l0] rfl ?_
  obtain ⟨u2, hu2, h⟩ := Option.bind_eq_some_iff.mp h
  obtain ⟨y1, hy1, h⟩ := Option.bind_eq_some_iff.mp h
  refine rn_callV [] rfl rfl ⟨rfl, rfl⟩ hu2 rfl rfl (e165 d hy1) ?_
  refine rn_steps 0 31 [.ref l0, x1, x2] [] rfl ?_
  cases h
  exact rn_ret rfl rfl rfl
noncomputable def f171_10 (l0 : Nat) (σ : xM) : Option xM :=
  (gR σ l0 9 4).bind fun r1 =>
  (gI σ r1 8 0).bind fun v2 =>
  if v2 = (-1) then
  (cO σ l0 9).bind fun u4 =>
  (f166 l0 6 σ).bind fun y3 =>
  f171_27 l0 y3
  else
  f171_27 l0 σ
set_option maxRecDepth 20000 in
set_option maxHeartbeats 1000000 in
theorem e171_10 (d : Nat) (l0 : Nat) (x1 x2 : Value) (σ : xM) (y : xM) (h : f171_10 l0 σ = some y) : Rn (d + 2) 171 10 [.ref l0, x1, x2] [] σ (none, y) := by
  unfold f171_10 at h
  refine rn_steps 1 11 [.ref l0, x1, x2] [.ref l0] rfl ?_
  obtain ⟨r1, hr1, h⟩ := Option.bind_eq_some_iff.mp h
  refine rn_gR (c := 9) (f := 4) rfl rfl ⟨⟨rfl, rfl⟩, rfl⟩ hr1 ?_
  refine rn_steps 0 14 [.ref l0, x1, x2] [.ref r1] rfl ?_
  obtain ⟨v2, hv2, h⟩ := Option.bind_eq_some_iff.mp h
  refine rn_gI (c := 8) (f := 0) rfl rfl ⟨⟨rfl, rfl⟩, Or.inl rfl⟩ hv2 ?_
  refine rn_steps 1 18 [.ref l0, x1, x2] [.int (-1), .int v2] rfl ?_
  refine rn_br (c := ¬ v2 = (-1)) rfl rfl decide_eq_true_iff (fun hb => ?_) (fun hb => ?_)
  · rw [if_neg hb] at h
    refine rn_steps 0 27 [.ref l0, x1, x2] [] rfl ?_
    exact e171_27 d _ _ _ _ _ h
  · rw [if_pos (Decidable.not_not.mp hb)] at h
    refine rn_steps 2 24 [.ref l0, x1, x2] [.int 6, .ref l0] rfl ?_
    obtain ⟨u4, hu4, h⟩ := Option.bind_eq_some_iff.mp h
    obtain ⟨y3, hy3, h⟩ := Option.bind_eq_some_iff.mp h
    refine rn_callV [.int 6] rfl rfl ⟨rfl, rfl⟩ hu4 rfl rfl (e166 (d + 1) hy3) ?_
    refine rn_steps 0 27 [.ref l0, x1, x2] [] rfl ?_
    exact e171_27 d _ _ _ _ _ h
/-- LastAskedModel.lineBegins(II)V -/
noncomputable def f171 (l0 : Nat) (l1 : Int32) (l2 : Int32) (σ : xM) : Option xM :=
  if l1 = l2 then
  (cO σ l0 9).bind fun u2 =>
  (f166 l0 5 σ).bind fun y1 =>
  f171_10 l0 y1
  else
  f171_10 l0 σ
set_option maxRecDepth 20000 in
set_option maxHeartbeats 1000000 in
theorem e171 (d : Nat) {l0 : Nat} {l1 : Int32} {l2 : Int32} {σ : xM} {y : xM} (h : f171 l0 l1 l2 σ = some y) : Rn (d + 2) 171 0 [.ref l0, .int l1, .int l2] [] σ (none, y) := by
  unfold f171 at h
  refine rn_steps 2 2 [.ref l0, .int l1, .int l2] [.int l2, .int l1] rfl ?_
  refine rn_br (c := ¬ l1 = l2) rfl rfl decide_eq_true_iff (fun hb => ?_) (fun hb => ?_)
  · rw [if_neg hb] at h
    refine rn_steps 0 10 [.ref l0, .int l1, .int l2] [] rfl ?_
    exact e171_10 d _ _ _ _ _ h
  · rw [if_pos (Decidable.not_not.mp hb)] at h
    refine rn_steps 2 7 [.ref l0, .int l1, .int l2] [.int 5, .ref l0] rfl ?_
    obtain ⟨u2, hu2, h⟩ := Option.bind_eq_some_iff.mp h
    obtain ⟨y1, hy1, h⟩ := Option.bind_eq_some_iff.mp h
    refine rn_callV [.int 5] rfl rfl ⟨rfl, rfl⟩ hu2 rfl rfl (e166 (d + 1) hy1) ?_
    refine rn_steps 0 10 [.ref l0, .int l1, .int l2] [] rfl ?_
    exact e171_10 d _ _ _ _ _ h
noncomputable def f172_47 (s0 : Int32) (σ : xM) : Option (Int32 × xM) :=
  some (s0, σ)
set_option maxRecDepth 20000 in
set_option maxHeartbeats 1000000 in
theorem e172_47 (d : Nat) (s0 : Int32) (x0 x1 : Value) (σ : xM) (y : Int32 × xM) (h : f172_47 s0 σ = some y) : Rn (d + 8) 172 47 [x0, x1] [.int s0] σ (some (.int y.1), y.2) := by
  unfold f172_47 at h
  cases h
  exact rn_ret rfl rfl rfl
noncomputable def f172_34 (l0 : Nat) (l1 : Int32) (σ : xM) : Option (Int32 × xM) :=
  (gI σ l0 9 9).bind fun v1 =>
  if v1 = 5 then
  f172_47 0 σ
  else
  f172_47 l1 σ
set_option maxRecDepth 20000 in
set_option maxHeartbeats 1000000 in
theorem e172_34 (d : Nat) (l0 : Nat) (l1 : Int32) (σ : xM) (y : Int32 × xM) (h : f172_34 l0 l1 σ = some y) : Rn (d + 8) 172 34 [.ref l0, .int l1] [] σ (some (.int y.1), y.2) := by
  unfold f172_34 at h
  refine rn_steps 1 35 [.ref l0, .int l1] [.ref l0] rfl ?_
  obtain ⟨v1, hv1, h⟩ := Option.bind_eq_some_iff.mp h
  refine rn_gI (c := 9) (f := 9) rfl rfl ⟨⟨rfl, rfl⟩, Or.inl rfl⟩ hv1 ?_
  refine rn_steps 1 39 [.ref l0, .int l1] [.int 5, .int v1] rfl ?_
  refine rn_br (c := ¬ v1 = 5) rfl rfl decide_eq_true_iff (fun hb => ?_) (fun hb => ?_)
  · rw [if_neg hb] at h
    refine rn_steps 1 47 [.ref l0, .int l1] [.int l1] rfl ?_
    exact e172_47 d _ _ _ _ _ h
  · rw [if_pos (Decidable.not_not.mp hb)] at h
    refine rn_steps 2 47 [.ref l0, .int l1] [.int 0] rfl ?_
    exact e172_47 d _ _ _ _ _ h
noncomputable def f172_12 (l0 : Nat) (σ : xM) : Option (Int32 × xM) :=
  (gR σ l0 9 4).bind fun r1 =>
  (gJ σ l0 9 14).bind fun v2 =>
  (cO σ r1 8).bind fun u6 =>
  (f147 r1 v2 σ).bind fun y3 =>
  if y3.1 = (-1) then
  (cO y3.2 l0 9).bind fun u5 =>
  (f166 l0 2 y3.2).bind fun y4 =>
  f172_34 l0 y3.1 y4
  else
  f172_34 l0 y3.1 y3.2
set_option maxRecDepth 20000 in
set_option maxHeartbeats 1000000 in
theorem e172_12 (d : Nat) (l0 : Nat) (x1 : Value) (σ : xM) (y : Int32 × xM) (h : f172_12 l0 σ = some y) : Rn (d + 8) 172 12 [.ref l0, x1] [] σ (some (.int y.1), y.2) := by
  unfold f172_12 at h
  refine rn_steps 1 13 [.ref l0, x1] [.ref l0] rfl ?_
  obtain ⟨r1, hr1, h⟩ := Option.bind_eq_some_iff.mp h
  refine rn_gR (c := 9) (f := 4) rfl rfl ⟨⟨rfl, rfl⟩, rfl⟩ hr1 ?_
  refine rn_steps 1 17 [.ref l0, x1] [.ref l0, .ref r1] rfl ?_
  obtain ⟨v2, hv2, h⟩ := Option.bind_eq_some_iff.mp h
  refine rn_gJ (c := 9) (f := 14) rfl rfl ⟨⟨rfl, rfl⟩, rfl⟩ hv2 ?_
  refine rn_steps 0 20 [.ref l0, x1] [.long v2, .ref r1] rfl ?_
  obtain ⟨u6, hu6, h⟩ := Option.bind_eq_some_iff.mp h
  obtain ⟨y3, hy3, h⟩ := Option.bind_eq_some_iff.mp h
  refine rn_callV [.long v2] rfl rfl ⟨rfl, rfl⟩ hu6 rfl rfl (e147 (d + 7) hy3) ?_
  refine rn_steps 3 26 [.ref l0, .int y3.1] [.int (-1), .int y3.1] rfl ?_
  refine rn_br (c := ¬ y3.1 = (-1)) rfl rfl decide_eq_true_iff (fun hb => ?_) (fun hb => ?_)
  · rw [if_neg hb] at h
    refine rn_steps 0 34 [.ref l0, .int y3.1] [] rfl ?_
    exact e172_34 d _ _ _ _ h
  · rw [if_pos (Decidable.not_not.mp hb)] at h
    refine rn_steps 2 31 [.ref l0, .int y3.1] [.int 2, .ref l0] rfl ?_
    obtain ⟨u5, hu5, h⟩ := Option.bind_eq_some_iff.mp h
    obtain ⟨y4, hy4, h⟩ := Option.bind_eq_some_iff.mp h
    refine rn_callV [.int 2] rfl rfl ⟨rfl, rfl⟩ hu5 rfl rfl (e166 (d + 7) hy4) ?_
    refine rn_steps 0 34 [.ref l0, .int y3.1] [] rfl ?_
    exact e172_34 d _ _ _ _ h
/-- LastAskedModel.personAtHand()I -/
noncomputable def f172 (l0 : Nat) (σ : xM) : Option (Int32 × xM) :=
  (cO σ l0 9).bind fun u4 =>
  (f170 l0 σ).bind fun y1 =>
  if y1.1 = 0 then
  (cO y1.2 l0 9).bind fun u3 =>
  (f166 l0 1 y1.2).bind fun y2 =>
  f172_12 l0 y2
  else
  f172_12 l0 y1.2
set_option maxRecDepth 20000 in
set_option maxHeartbeats 1000000 in
theorem e172 (d : Nat) {l0 : Nat} {σ : xM} {y : Int32 × xM} (h : f172 l0 σ = some y) : Rn (d + 8) 172 0 [.ref l0, .retAddr 0] [] σ (some (.int y.1), y.2) := by
  unfold f172 at h
  refine rn_steps 1 1 [.ref l0, .retAddr 0] [.ref l0] rfl ?_
  obtain ⟨u4, hu4, h⟩ := Option.bind_eq_some_iff.mp h
  obtain ⟨y1, hy1, h⟩ := Option.bind_eq_some_iff.mp h
  refine rn_callV [] rfl rfl ⟨rfl, rfl⟩ hu4 rfl rfl (e170 d hy1) ?_
  refine rn_steps 0 4 [.ref l0, .retAddr 0] [.int y1.1] rfl ?_
  refine rn_br (c := ¬ y1.1 = 0) rfl rfl decide_eq_true_iff (fun hb => ?_) (fun hb => ?_)
  · rw [if_neg hb] at h
    refine rn_steps 0 12 [.ref l0, .retAddr 0] [] rfl ?_
    exact e172_12 d _ _ _ _ h
  · rw [if_pos (Decidable.not_not.mp hb)] at h
    refine rn_steps 2 9 [.ref l0, .retAddr 0] [.int 1, .ref l0] rfl ?_
    obtain ⟨u3, hu3, h⟩ := Option.bind_eq_some_iff.mp h
    obtain ⟨y2, hy2, h⟩ := Option.bind_eq_some_iff.mp h
    refine rn_callV [.int 1] rfl rfl ⟨rfl, rfl⟩ hu3 rfl rfl (e166 (d + 7) hy2) ?_
    refine rn_steps 0 12 [.ref l0, .retAddr 0] [] rfl ?_
    exact e172_12 d _ _ _ _ h
noncomputable def f175_16 (l0 : Nat) (σ : xM) : Option xM :=
  (cO σ l0 9).bind fun u11 =>
  (f165 l0 σ).bind fun y1 =>
  (cO y1 l0 9).bind fun u10 =>
  (f169 l0 (UInt32.ofNat 1) 0 99 y1).bind fun y2 =>
  (cO y2.2 l0 9).bind fun u9 =>
  (f169 l0 (UInt32.ofNat 2) 0 9 y2.2).bind fun y3 =>
  (gI y3.2 l0 9 9).bind fun v4 =>
  if v4 = 5 then
  some y3.2
  else
  (gR y3.2 l0 9 4).bind fun r5 =>
  (pI y3.2 r5 8 0 y2.1).bind fun σ6 =>
  (gR σ6 l0 9 4).bind fun r7 =>
  (pI σ6 r7 8 1 y3.1).bind fun σ8 =>
  some σ8
set_option maxRecDepth 20000 in
set_option maxHeartbeats 1000000 in
theorem e175_16 (d : Nat) (l0 : Nat) (x1 x2 : Value) (σ : xM) (y : xM) (h : f175_16 l0 σ = some y) : Rn (d + 8) 175 16 [.ref l0, x1, x2] [] σ (none, y) := by
  unfold f175_16 at h
  refine rn_steps 1 17 [.ref l0, x1, x2] [.ref l0] rfl ?_
  obtain ⟨u11, hu11, h⟩ := Option.bind_eq_some_iff.mp h
  obtain ⟨y1, hy1, h⟩ := Option.bind_eq_some_iff.mp h
  refine rn_callV [] rfl rfl ⟨rfl, rfl⟩ hu11 rfl rfl (e165 (d + 6) hy1) ?_
  refine rn_steps 4 26 [.ref l0, x1, x2] [.int 99, .int 0, .float (UInt32.ofNat 1), .ref l0] rfl ?_
  obtain ⟨u10, hu10, h⟩ := Option.bind_eq_some_iff.mp h
  obtain ⟨y2, hy2, h⟩ := Option.bind_eq_some_iff.mp h
  refine rn_callV [.float (UInt32.ofNat 1), .int 0, .int 99] rfl rfl ⟨rfl, rfl⟩ hu10 rfl rfl (e169 d hy2) ?_
  refine rn_steps 5 36 [.ref l0, .int y2.1, x2] [.int 9, .int 0, .float (UInt32.ofNat 2), .ref l0] rfl ?_
  obtain ⟨u9, hu9, h⟩ := Option.bind_eq_some_iff.mp h
  obtain ⟨y3, hy3, h⟩ := Option.bind_eq_some_iff.mp h
  refine rn_callV [.float (UInt32.ofNat 2), .int 0, .int 9] rfl rfl ⟨rfl, rfl⟩ hu9 rfl rfl (e169 d hy3) ?_
  refine rn_steps 2 41 [.ref l0, .int y2.1, .int y3.1] [.ref l0] rfl ?_
  obtain ⟨v4, hv4, h⟩ := Option.bind_eq_some_iff.mp h
  refine rn_gI (c := 9) (f := 9) rfl rfl ⟨⟨rfl, rfl⟩, Or.inl rfl⟩ hv4 ?_
  refine rn_steps 1 45 [.ref l0, .int y2.1, .int y3.1] [.int 5, .int v4] rfl ?_
  refine rn_br (c := ¬ v4 = 5) rfl rfl decide_eq_true_iff (fun hb => ?_) (fun hb => ?_)
  · rw [if_neg hb] at h
    refine rn_steps 1 50 [.ref l0, .int y2.1, .int y3.1] [.ref l0] rfl ?_
    obtain ⟨r5, hr5, h⟩ := Option.bind_eq_some_iff.mp h
    refine rn_gR (c := 9) (f := 4) rfl rfl ⟨⟨rfl, rfl⟩, rfl⟩ hr5 ?_
    refine rn_steps 1 54 [.ref l0, .int y2.1, .int y3.1] [.int y2.1, .ref r5] rfl ?_
    obtain ⟨σ6, hσ6, h⟩ := Option.bind_eq_some_iff.mp h
    refine rn_pI (c := 8) (f := 0) rfl rfl ⟨⟨rfl, rfl⟩, rfl⟩ hσ6 ?_
    refine rn_steps 1 58 [.ref l0, .int y2.1, .int y3.1] [.ref l0] rfl ?_
    obtain ⟨r7, hr7, h⟩ := Option.bind_eq_some_iff.mp h
    refine rn_gR (c := 9) (f := 4) rfl rfl ⟨⟨rfl, rfl⟩, rfl⟩ hr7 ?_
    refine rn_steps 1 62 [.ref l0, .int y2.1, .int y3.1] [.int y3.1, .ref r7] rfl ?_
    obtain ⟨σ8, hσ8, h⟩ := Option.bind_eq_some_iff.mp h
    refine rn_pI (c := 8) (f := 1) rfl rfl ⟨⟨rfl, rfl⟩, rfl⟩ hσ8 ?_
    refine rn_steps 0 65 [.ref l0, .int y2.1, .int y3.1] [] rfl ?_
    cases h
    exact rn_ret rfl rfl rfl
  · rw [if_pos (Decidable.not_not.mp hb)] at h
    refine rn_steps 0 48 [.ref l0, .int y2.1, .int y3.1] [] rfl ?_
    cases h
    exact rn_ret rfl rfl rfl
/-- LastAskedModel.readCity()V -/
noncomputable def f175 (l0 : Nat) (σ : xM) : Option xM :=
  (gR σ l0 9 4).bind fun r1 =>
  (gI σ r1 8 0).bind fun v2 =>
  if v2 = (-1) then
  f175_16 l0 σ
  else
  (cO σ l0 9).bind fun u4 =>
  (f166 l0 3 σ).bind fun y3 =>
  f175_16 l0 y3
set_option maxRecDepth 20000 in
set_option maxHeartbeats 1000000 in
theorem e175 (d : Nat) {l0 : Nat} {σ : xM} {y : xM} (h : f175 l0 σ = some y) : Rn (d + 8) 175 0 [.ref l0, .retAddr 0, .retAddr 0] [] σ (none, y) := by
  unfold f175 at h
  refine rn_steps 1 1 [.ref l0, .retAddr 0, .retAddr 0] [.ref l0] rfl ?_
  obtain ⟨r1, hr1, h⟩ := Option.bind_eq_some_iff.mp h
  refine rn_gR (c := 9) (f := 4) rfl rfl ⟨⟨rfl, rfl⟩, rfl⟩ hr1 ?_
  refine rn_steps 0 4 [.ref l0, .retAddr 0, .retAddr 0] [.ref r1] rfl ?_
  obtain ⟨v2, hv2, h⟩ := Option.bind_eq_some_iff.mp h
  refine rn_gI (c := 8) (f := 0) rfl rfl ⟨⟨rfl, rfl⟩, Or.inl rfl⟩ hv2 ?_
  refine rn_steps 1 8 [.ref l0, .retAddr 0, .retAddr 0] [.int (-1), .int v2] rfl ?_
  refine rn_br (c := v2 = (-1)) rfl rfl decide_eq_true_iff (fun hb => ?_) (fun hb => ?_)
  · rw [if_pos hb] at h
    refine rn_steps 0 16 [.ref l0, .retAddr 0, .retAddr 0] [] rfl ?_
    exact e175_16 d _ _ _ _ _ h
  · rw [if_neg hb] at h
    refine rn_steps 2 13 [.ref l0, .retAddr 0, .retAddr 0] [.int 3, .ref l0] rfl ?_
    obtain ⟨u4, hu4, h⟩ := Option.bind_eq_some_iff.mp h
    obtain ⟨y3, hy3, h⟩ := Option.bind_eq_some_iff.mp h
    refine rn_callV [.int 3] rfl rfl ⟨rfl, rfl⟩ hu4 rfl rfl (e166 (d + 7) hy3) ?_
    refine rn_steps 0 16 [.ref l0, .retAddr 0, .retAddr 0] [] rfl ?_
    exact e175_16 d _ _ _ _ _ h
noncomputable def f176_118 (l0 : Nat) (l1 : Int64) (l3 : Int32) (σ : xM) : Option xM :=
  (cO σ l0 9).bind fun u24 =>
  (f165 l0 σ).bind fun y1 =>
  (cO y1 l0 9).bind fun u23 =>
  (f169 l0 (UInt32.ofNat 13) 0 99 y1).bind fun y2 =>
  (cO y2.2 l0 9).bind fun u22 =>
  (f169 l0 (UInt32.ofNat 14) 0 100 y2.2).bind fun y3 =>
  (gI y3.2 l0 9 9).bind fun v4 =>
  if v4 = 5 then
  some y3.2
  else
  (gR y3.2 l0 9 4).bind fun r5 =>
  (gI y3.2 r5 8 2).bind fun v6 =>
  (gR y3.2 l0 9 4).bind fun r7 =>
  (gR y3.2 r7 8 16).bind fun r8 =>
  (tJ y3.2 r8 v6 l1).bind fun σ9 =>
  (gR σ9 l0 9 4).bind fun r10 =>
  (gR σ9 r10 8 7).bind fun r11 =>
  (tI σ9 r11 v6 l3).bind fun σ12 =>
  (gR σ12 l0 9 4).bind fun r13 =>
  (gR σ12 r13 8 8).bind fun r14 =>
  (tI σ12 r14 v6 y2.1).bind fun σ15 =>
  (gR σ15 l0 9 4).bind fun r16 =>
  (gR σ15 r16 8 9).bind fun r17 =>
  (tI σ15 r17 v6 y3.1).bind fun σ18 =>
  (gR σ18 l0 9 4).bind fun r19 =>
  (gI σ18 r19 8 2).bind fun v20 =>
  (pI σ18 r19 8 2 (v20 + 1)).bind fun σ21 =>
  some σ21
set_option maxRecDepth 20000 in
set_option maxHeartbeats 1000000 in
theorem e176_118 (d : Nat) (l0 : Nat) (l1 : Int64) (l3 : Int32) (x4 x5 x6 : Value) (σ : xM) (y : xM) (h : f176_118 l0 l1 l3 σ = some y) : Rn (d + 8) 176 118 [.ref l0, .long l1, .retAddr 1, .int l3, x4, x5, x6] [] σ (none, y) := by
  unfold f176_118 at h
  refine rn_steps 1 119 [.ref l0, .long l1, .retAddr 1, .int l3, x4, x5, x6] [.ref l0] rfl ?_
  obtain ⟨u24, hu24, h⟩ := Option.bind_eq_some_iff.mp h
  obtain ⟨y1, hy1, h⟩ := Option.bind_eq_some_iff.mp h
  refine rn_callV [] rfl rfl ⟨rfl, rfl⟩ hu24 rfl rfl (e165 (d + 6) hy1) ?_
  refine rn_steps 4 128 [.ref l0, .long l1, .retAddr 1, .int l3, x4, x5, x6] [.int 99, .int 0, .float (UInt32.ofNat 13), .ref l0] rfl ?_
  obtain ⟨u23, hu23, h⟩ := Option.bind_eq_some_iff.mp h
  obtain ⟨y2, hy2, h⟩ := Option.bind_eq_some_iff.mp h
  refine rn_callV [.float (UInt32.ofNat 13), .int 0, .int 99] rfl rfl ⟨rfl, rfl⟩ hu23 rfl rfl (e169 d hy2) ?_
  refine rn_steps 5 139 [.ref l0, .long l1, .retAddr 1, .int l3, .int y2.1, x5, x6] [.int 100, .int 0, .float (UInt32.ofNat 14), .ref l0] rfl ?_
  obtain ⟨u22, hu22, h⟩ := Option.bind_eq_some_iff.mp h
  obtain ⟨y3, hy3, h⟩ := Option.bind_eq_some_iff.mp h
  refine rn_callV [.float (UInt32.ofNat 14), .int 0, .int 100] rfl rfl ⟨rfl, rfl⟩ hu22 rfl rfl (e169 d hy3) ?_
  refine rn_steps 2 145 [.ref l0, .long l1, .retAddr 1, .int l3, .int y2.1, .int y3.1, x6] [.ref l0] rfl ?_
  obtain ⟨v4, hv4, h⟩ := Option.bind_eq_some_iff.mp h
  refine rn_gI (c := 9) (f := 9) rfl rfl ⟨⟨rfl, rfl⟩, Or.inl rfl⟩ hv4 ?_
  refine rn_steps 1 149 [.ref l0, .long l1, .retAddr 1, .int l3, .int y2.1, .int y3.1, x6] [.int 5, .int v4] rfl ?_
  refine rn_br (c := ¬ v4 = 5) rfl rfl decide_eq_true_iff (fun hb => ?_) (fun hb => ?_)
  · rw [if_neg hb] at h
    refine rn_steps 1 154 [.ref l0, .long l1, .retAddr 1, .int l3, .int y2.1, .int y3.1, x6] [.ref l0] rfl ?_
    obtain ⟨r5, hr5, h⟩ := Option.bind_eq_some_iff.mp h
    refine rn_gR (c := 9) (f := 4) rfl rfl ⟨⟨rfl, rfl⟩, rfl⟩ hr5 ?_
    refine rn_steps 0 157 [.ref l0, .long l1, .retAddr 1, .int l3, .int y2.1, .int y3.1, x6] [.ref r5] rfl ?_
    obtain ⟨v6, hv6, h⟩ := Option.bind_eq_some_iff.mp h
    refine rn_gI (c := 8) (f := 2) rfl rfl ⟨⟨rfl, rfl⟩, Or.inl rfl⟩ hv6 ?_
    refine rn_steps 2 163 [.ref l0, .long l1, .retAddr 1, .int l3, .int y2.1, .int y3.1, .int v6] [.ref l0] rfl ?_
    obtain ⟨r7, hr7, h⟩ := Option.bind_eq_some_iff.mp h
    refine rn_gR (c := 9) (f := 4) rfl rfl ⟨⟨rfl, rfl⟩, rfl⟩ hr7 ?_
    refine rn_steps 0 166 [.ref l0, .long l1, .retAddr 1, .int l3, .int y2.1, .int y3.1, .int v6] [.ref r7] rfl ?_
    obtain ⟨r8, hr8, h⟩ := Option.bind_eq_some_iff.mp h
    refine rn_gR (c := 8) (f := 16) rfl rfl ⟨⟨rfl, rfl⟩, rfl⟩ hr8 ?_
    refine rn_steps 2 172 [.ref l0, .long l1, .retAddr 1, .int l3, .int y2.1, .int y3.1, .int v6] [.long l1, .int v6, .ref r8] rfl ?_
    obtain ⟨σ9, hσ9, h⟩ := Option.bind_eq_some_iff.mp h
    refine rn_tJ rfl hσ9 ?_
    refine rn_steps 1 174 [.ref l0, .long l1, .retAddr 1, .int l3, .int y2.1, .int y3.1, .int v6] [.ref l0] rfl ?_
    obtain ⟨r10, hr10, h⟩ := Option.bind_eq_some_iff.mp h
    refine rn_gR (c := 9) (f := 4) rfl rfl ⟨⟨rfl, rfl⟩, rfl⟩ hr10 ?_
    refine rn_steps 0 177 [.ref l0, .long l1, .retAddr 1, .int l3, .int y2.1, .int y3.1, .int v6] [.ref r10] rfl ?_
    obtain ⟨r11, hr11, h⟩ := Option.bind_eq_some_iff.mp h
    refine rn_gR (c := 8) (f := 7) rfl rfl ⟨⟨rfl, rfl⟩, rfl⟩ hr11 ?_
    refine rn_steps 2 183 [.ref l0, .long l1, .retAddr 1, .int l3, .int y2.1, .int y3.1, .int v6] [.int l3, .int v6, .ref r11] rfl ?_
    obtain ⟨σ12, hσ12, h⟩ := Option.bind_eq_some_iff.mp h
    refine rn_tI rfl hσ12 ?_
    refine rn_steps 1 185 [.ref l0, .long l1, .retAddr 1, .int l3, .int y2.1, .int y3.1, .int v6] [.ref l0] rfl ?_
    obtain ⟨r13, hr13, h⟩ := Option.bind_eq_some_iff.mp h
    refine rn_gR (c := 9) (f := 4) rfl rfl ⟨⟨rfl, rfl⟩, rfl⟩ hr13 ?_
    refine rn_steps 0 188 [.ref l0, .long l1, .retAddr 1, .int l3, .int y2.1, .int y3.1, .int v6] [.ref r13] rfl ?_
    obtain ⟨r14, hr14, h⟩ := Option.bind_eq_some_iff.mp h
    refine rn_gR (c := 8) (f := 8) rfl rfl ⟨⟨rfl, rfl⟩, rfl⟩ hr14 ?_
    refine rn_steps 2 195 [.ref l0, .long l1, .retAddr 1, .int l3, .int y2.1, .int y3.1, .int v6] [.int y2.1, .int v6, .ref r14] rfl ?_
    obtain ⟨σ15, hσ15, h⟩ := Option.bind_eq_some_iff.mp h
    refine rn_tI rfl hσ15 ?_
    refine rn_steps 1 197 [.ref l0, .long l1, .retAddr 1, .int l3, .int y2.1, .int y3.1, .int v6] [.ref l0] rfl ?_
    obtain ⟨r16, hr16, h⟩ := Option.bind_eq_some_iff.mp h
    refine rn_gR (c := 9) (f := 4) rfl rfl ⟨⟨rfl, rfl⟩, rfl⟩ hr16 ?_
    refine rn_steps 0 200 [.ref l0, .long l1, .retAddr 1, .int l3, .int y2.1, .int y3.1, .int v6] [.ref r16] rfl ?_
    obtain ⟨r17, hr17, h⟩ := Option.bind_eq_some_iff.mp h
    refine rn_gR (c := 8) (f := 9) rfl rfl ⟨⟨rfl, rfl⟩, rfl⟩ hr17 ?_
    refine rn_steps 2 207 [.ref l0, .long l1, .retAddr 1, .int l3, .int y2.1, .int y3.1, .int v6] [.int y3.1, .int v6, .ref r17] rfl ?_
    obtain ⟨σ18, hσ18, h⟩ := Option.bind_eq_some_iff.mp h
    refine rn_tI rfl hσ18 ?_
    refine rn_steps 1 209 [.ref l0, .long l1, .retAddr 1, .int l3, .int y2.1, .int y3.1, .int v6] [.ref l0] rfl ?_
    obtain ⟨r19, hr19, h⟩ := Option.bind_eq_some_iff.mp h
    refine rn_gR (c := 9) (f := 4) rfl rfl ⟨⟨rfl, rfl⟩, rfl⟩ hr19 ?_
    refine rn_steps 1 213 [.ref l0, .long l1, .retAddr 1, .int l3, .int y2.1, .int y3.1, .int v6] [.ref r19, .ref r19] rfl ?_
    obtain ⟨v20, hv20, h⟩ := Option.bind_eq_some_iff.mp h
    refine rn_gI (c := 8) (f := 2) rfl rfl ⟨⟨rfl, rfl⟩, Or.inl rfl⟩ hv20 ?_
    refine rn_steps 2 218 [.ref l0, .long l1, .retAddr 1, .int l3, .int y2.1, .int y3.1, .int v6] [.int (v20 + 1), .ref r19] rfl ?_
    obtain ⟨σ21, hσ21, h⟩ := Option.bind_eq_some_iff.mp h
    refine rn_pI (c := 8) (f := 2) rfl rfl ⟨⟨rfl, rfl⟩, rfl⟩ hσ21 ?_
    refine rn_steps 0 221 [.ref l0, .long l1, .retAddr 1, .int l3, .int y2.1, .int y3.1, .int v6] [] rfl ?_
    cases h
    exact rn_ret rfl rfl rfl
  · rw [if_pos (Decidable.not_not.mp hb)] at h
    refine rn_steps 0 152 [.ref l0, .long l1, .retAddr 1, .int l3, .int y2.1, .int y3.1, x6] [] rfl ?_
    cases h
    exact rn_ret rfl rfl rfl
noncomputable def f176_107 (l0 : Nat) (l1 : Int64) (s0 : Int32) (σ : xM) : Option xM :=
  if s0 = (-1) then
  (cO σ l0 9).bind fun u2 =>
  (f166 l0 1 σ).bind fun y1 =>
  f176_118 l0 l1 s0 y1
  else
  f176_118 l0 l1 s0 σ
set_option maxRecDepth 20000 in
set_option maxHeartbeats 1000000 in
theorem e176_107 (d : Nat) (l0 : Nat) (l1 : Int64) (s0 : Int32) (x3 x4 x5 x6 : Value) (σ : xM) (y : xM) (h : f176_107 l0 l1 s0 σ = some y) : Rn (d + 8) 176 107 [.ref l0, .long l1, .retAddr 1, x3, x4, x5, x6] [.int s0] σ (none, y) := by
  unfold f176_107 at h
  refine rn_steps 3 110 [.ref l0, .long l1, .retAddr 1, .int s0, x4, x5, x6] [.int (-1), .int s0] rfl ?_
  refine rn_br (c := ¬ s0 = (-1)) rfl rfl decide_eq_true_iff (fun hb => ?_) (fun hb => ?_)
  · rw [if_neg hb] at h
    refine rn_steps 0 118 [.ref l0, .long l1, .retAddr 1, .int s0, x4, x5, x6] [] rfl ?_
    exact e176_118 d _ _ _ _ _ _ _ _ h
  · rw [if_pos (Decidable.not_not.mp hb)] at h
    refine rn_steps 2 115 [.ref l0, .long l1, .retAddr 1, .int s0, x4, x5, x6] [.int 1, .ref l0] rfl ?_
    obtain ⟨u2, hu2, h⟩ := Option.bind_eq_some_iff.mp h
    obtain ⟨y1, hy1, h⟩ := Option.bind_eq_some_iff.mp h
    refine rn_callV [.int 1] rfl rfl ⟨rfl, rfl⟩ hu2 rfl rfl (e166 (d + 7) hy1) ?_
    refine rn_steps 0 118 [.ref l0, .long l1, .retAddr 1, .int s0, x4, x5, x6] [] rfl ?_
    exact e176_118 d _ _ _ _ _ _ _ _ h
noncomputable def f176_45 (l0 : Nat) (σ : xM) : Option xM :=
  (gJ σ l0 9 14).bind fun v1 =>
  (cO σ l0 9).bind fun u11 =>
  (f165 l0 σ).bind fun y2 =>
  (cO y2 l0 9).bind fun u10 =>
  (f167 l0 (UInt32.ofNat 9) y2).bind fun y3 =>
  if y3.1 = 0 then
  (cO y3.2 l0 9).bind fun u9 =>
  (f167 l0 (UInt32.ofNat 10) y3.2).bind fun y4 =>
  if y4.1 = 0 then
  (cO y4.2 l0 9).bind fun u8 =>
  (f167 l0 (UInt32.ofNat 11) y4.2).bind fun y5 =>
  if y5.1 = 0 then
  (cO y5.2 l0 9).bind fun u7 =>
  (f167 l0 (UInt32.ofNat 12) y5.2).bind fun y6 =>
  if y6.1 = 0 then
  f176_107 l0 v1 (-1) y6.2
  else
  f176_107 l0 v1 3 y6.2
  else
  f176_107 l0 v1 2 y5.2
  else
  f176_107 l0 v1 1 y4.2
  else
  f176_107 l0 v1 0 y3.2
set_option maxRecDepth 20000 in
set_option maxHeartbeats 1000000 in
theorem e176_45 (d : Nat) (l0 : Nat) (x1 x2 x3 x4 x5 x6 : Value) (σ : xM) (y : xM) (h : f176_45 l0 σ = some y) : Rn (d + 8) 176 45 [.ref l0, x1, x2, x3, x4, x5, x6] [] σ (none, y) := by
  unfold f176_45 at h
  refine rn_steps 1 46 [.ref l0, x1, x2, x3, x4, x5, x6] [.ref l0] rfl ?_
  obtain ⟨v1, hv1, h⟩ := Option.bind_eq_some_iff.mp h
  refine rn_gJ (c := 9) (f := 14) rfl rfl ⟨⟨rfl, rfl⟩, rfl⟩ hv1 ?_
  refine rn_steps 2 51 [.ref l0, .long v1, .retAddr 1, x3, x4, x5, x6] [.ref l0] rfl ?_
  obtain ⟨u11, hu11, h⟩ := Option.bind_eq_some_iff.mp h
  obtain ⟨y2, hy2, h⟩ := Option.bind_eq_some_iff.mp h
  refine rn_callV [] rfl rfl ⟨rfl, rfl⟩ hu11 rfl rfl (e165 (d + 6) hy2) ?_
  refine rn_steps 2 57 [.ref l0, .long v1, .retAddr 1, x3, x4, x5, x6] [.float (UInt32.ofNat 9), .ref l0] rfl ?_
  obtain ⟨u10, hu10, h⟩ := Option.bind_eq_some_iff.mp h
  obtain ⟨y3, hy3, h⟩ := Option.bind_eq_some_iff.mp h
  refine rn_callV [.float (UInt32.ofNat 9)] rfl rfl ⟨rfl, rfl⟩ hu10 rfl rfl (e167 (d + 1) hy3) ?_
  refine rn_steps 0 60 [.ref l0, .long v1, .retAddr 1, x3, x4, x5, x6] [.int y3.1] rfl ?_
  refine rn_br (c := y3.1 = 0) rfl rfl decide_eq_true_iff (fun hb => ?_) (fun hb => ?_)
  · rw [if_pos hb] at h
    refine rn_steps 2 70 [.ref l0, .long v1, .retAddr 1, x3, x4, x5, x6] [.float (UInt32.ofNat 10), .ref l0] rfl ?_
    obtain ⟨u9, hu9, h⟩ := Option.bind_eq_some_iff.mp h
    obtain ⟨y4, hy4, h⟩ := Option.bind_eq_some_iff.mp h
    refine rn_callV [.float (UInt32.ofNat 10)] rfl rfl ⟨rfl, rfl⟩ hu9 rfl rfl (e167 (d + 1) hy4) ?_
    refine rn_steps 0 73 [.ref l0, .long v1, .retAddr 1, x3, x4, x5, x6] [.int y4.1] rfl ?_
    refine rn_br (c := y4.1 = 0) rfl rfl decide_eq_true_iff (fun hb => ?_) (fun hb => ?_)
    · rw [if_pos hb] at h
      refine rn_steps 2 83 [.ref l0, .long v1, .retAddr 1, x3, x4, x5, x6] [.float (UInt32.ofNat 11), .ref l0] rfl ?_
      obtain ⟨u8, hu8, h⟩ := Option.bind_eq_some_iff.mp h
      obtain ⟨y5, hy5, h⟩ := Option.bind_eq_some_iff.mp h
      refine rn_callV [.float (UInt32.ofNat 11)] rfl rfl ⟨rfl, rfl⟩ hu8 rfl rfl (e167 (d + 1) hy5) ?_
      refine rn_steps 0 86 [.ref l0, .long v1, .retAddr 1, x3, x4, x5, x6] [.int y5.1] rfl ?_
      refine rn_br (c := y5.1 = 0) rfl rfl decide_eq_true_iff (fun hb => ?_) (fun hb => ?_)
      · rw [if_pos hb] at h
        refine rn_steps 2 96 [.ref l0, .long v1, .retAddr 1, x3, x4, x5, x6] [.float (UInt32.ofNat 12), .ref l0] rfl ?_
        obtain ⟨u7, hu7, h⟩ := Option.bind_eq_some_iff.mp h
        obtain ⟨y6, hy6, h⟩ := Option.bind_eq_some_iff.mp h
        refine rn_callV [.float (UInt32.ofNat 12)] rfl rfl ⟨rfl, rfl⟩ hu7 rfl rfl (e167 (d + 1) hy6) ?_
        refine rn_steps 0 99 [.ref l0, .long v1, .retAddr 1, x3, x4, x5, x6] [.int y6.1] rfl ?_
        refine rn_br (c := y6.1 = 0) rfl rfl decide_eq_true_iff (fun hb => ?_) (fun hb => ?_)
        · rw [if_pos hb] at h
          refine rn_steps 1 107 [.ref l0, .long v1, .retAddr 1, x3, x4, x5, x6] [.int (-1)] rfl ?_
          exact e176_107 d _ _ _ _ _ _ _ _ _ h
        · rw [if_neg hb] at h
          refine rn_steps 2 107 [.ref l0, .long v1, .retAddr 1, x3, x4, x5, x6] [.int 3] rfl ?_
          exact e176_107 d _ _ _ _ _ _ _ _ _ h
      · rw [if_neg hb] at h
        refine rn_steps 2 107 [.ref l0, .long v1, .retAddr 1, x3, x4, x5, x6] [.int 2] rfl ?_
        exact e176_107 d _ _ _ _ _ _ _ _ _ h
    · rw [if_neg hb] at h
      refine rn_steps 2 107 [.ref l0, .long v1, .retAddr 1, x3, x4, x5, x6] [.int 1] rfl ?_
      exact e176_107 d _ _ _ _ _ _ _ _ _ h
  · rw [if_neg hb] at h
    refine rn_steps 2 107 [.ref l0, .long v1, .retAddr 1, x3, x4, x5, x6] [.int 0] rfl ?_
    exact e176_107 d _ _ _ _ _ _ _ _ _ h
noncomputable def f176_25 (l0 : Nat) (σ : xM) : Option xM :=
  (gR σ l0 9 4).bind fun r1 =>
  (gJ σ l0 9 14).bind fun v2 =>
  (cO σ r1 8).bind fun u6 =>
  (f147 r1 v2 σ).bind fun y3 =>
  if y3.1 = (-1) then
  f176_45 l0 y3.2
  else
  (cO y3.2 l0 9).bind fun u5 =>
  (f166 l0 3 y3.2).bind fun y4 =>
  f176_45 l0 y4
set_option maxRecDepth 20000 in
set_option maxHeartbeats 1000000 in
theorem e176_25 (d : Nat) (l0 : Nat) (x1 x2 x3 x4 x5 x6 : Value) (σ : xM) (y : xM) (h : f176_25 l0 σ = some y) : Rn (d + 8) 176 25 [.ref l0, x1, x2, x3, x4, x5, x6] [] σ (none, y) := by
  unfold f176_25 at h
  refine rn_steps 1 26 [.ref l0, x1, x2, x3, x4, x5, x6] [.ref l0] rfl ?_
  obtain ⟨r1, hr1, h⟩ := Option.bind_eq_some_iff.mp h
  refine rn_gR (c := 9) (f := 4) rfl rfl ⟨⟨rfl, rfl⟩, rfl⟩ hr1 ?_
  refine rn_steps 1 30 [.ref l0, x1, x2, x3, x4, x5, x6] [.ref l0, .ref r1] rfl ?_
  obtain ⟨v2, hv2, h⟩ := Option.bind_eq_some_iff.mp h
  refine rn_gJ (c := 9) (f := 14) rfl rfl ⟨⟨rfl, rfl⟩, rfl⟩ hv2 ?_
  refine rn_steps 0 33 [.ref l0, x1, x2, x3, x4, x5, x6] [.long v2, .ref r1] rfl ?_
  obtain ⟨u6, hu6, h⟩ := Option.bind_eq_some_iff.mp h
  obtain ⟨y3, hy3, h⟩ := Option.bind_eq_some_iff.mp h
  refine rn_callV [.long v2] rfl rfl ⟨rfl, rfl⟩ hu6 rfl rfl (e147 (d + 7) hy3) ?_
  refine rn_steps 1 37 [.ref l0, x1, x2, x3, x4, x5, x6] [.int (-1), .int y3.1] rfl ?_
  refine rn_br (c := y3.1 = (-1)) rfl rfl decide_eq_true_iff (fun hb => ?_) (fun hb => ?_)
  · rw [if_pos hb] at h
    refine rn_steps 0 45 [.ref l0, x1, x2, x3, x4, x5, x6] [] rfl ?_
    exact e176_45 d _ _ _ _ _ _ _ _ _ h
  · rw [if_neg hb] at h
    refine rn_steps 2 42 [.ref l0, x1, x2, x3, x4, x5, x6] [.int 3, .ref l0] rfl ?_
    obtain ⟨u5, hu5, h⟩ := Option.bind_eq_some_iff.mp h
    obtain ⟨y4, hy4, h⟩ := Option.bind_eq_some_iff.mp h
    refine rn_callV [.int 3] rfl rfl ⟨rfl, rfl⟩ hu5 rfl rfl (e166 (d + 7) hy4) ?_
    refine rn_steps 0 45 [.ref l0, x1, x2, x3, x4, x5, x6] [] rfl ?_
    exact e176_45 d _ _ _ _ _ _ _ _ _ h
/-- LastAskedModel.readPerson()V -/
noncomputable def f176 (l0 : Nat) (σ : xM) : Option xM :=
  (gR σ l0 9 4).bind fun r1 =>
  (gI σ r1 8 2).bind fun v2 =>
  (cO σ l0 9).bind fun u8 =>
  (f171 l0 v2 6 σ).bind fun y3 =>
  (cO y3 l0 9).bind fun u7 =>
  (f170 l0 y3).bind fun y4 =>
  if y4.1 = 0 then
  (cO y4.2 l0 9).bind fun u6 =>
  (f166 l0 1 y4.2).bind fun y5 =>
  f176_25 l0 y5
  else
  f176_25 l0 y4.2
set_option maxRecDepth 20000 in
set_option maxHeartbeats 1000000 in
theorem e176 (d : Nat) {l0 : Nat} {σ : xM} {y : xM} (h : f176 l0 σ = some y) : Rn (d + 8) 176 0 [.ref l0, .retAddr 0, .retAddr 0, .retAddr 0, .retAddr 0, .retAddr 0, .retAddr 0] [] σ (none, y) := by
  unfold f176 at h
  refine rn_steps 2 2 [.ref l0, .retAddr 0, .retAddr 0, .retAddr 0, .retAddr 0, .retAddr 0, .retAddr 0] [.ref l0, .ref l0] rfl ?_
  obtain ⟨r1, hr1, h⟩ := Option.bind_eq_some_iff.mp h
  refine rn_gR (c := 9) (f := 4) rfl rfl ⟨⟨rfl, rfl⟩, rfl⟩ hr1 ?_
  refine rn_steps 0 5 [.ref l0, .retAddr 0, .retAddr 0, .retAddr 0, .retAddr 0, .retAddr 0, .retAddr 0] [.ref r1, .ref l0] rfl ?_
  obtain ⟨v2, hv2, h⟩ := Option.bind_eq_some_iff.mp h
  refine rn_gI (c := 8) (f := 2) rfl rfl ⟨⟨rfl, rfl⟩, Or.inl rfl⟩ hv2 ?_
  refine rn_steps 1 10 [.ref l0, .retAddr 0, .retAddr 0, .retAddr 0, .retAddr 0, .retAddr 0, .retAddr 0] [.int 6, .int v2, .ref l0] rfl ?_
  obtain ⟨u8, hu8, h⟩ := Option.bind_eq_some_iff.mp h
  obtain ⟨y3, hy3, h⟩ := Option.bind_eq_some_iff.mp h
  refine rn_callV [.int v2, .int 6] rfl rfl ⟨rfl, rfl⟩ hu8 rfl rfl (e171 (d + 5) hy3) ?_
  refine rn_steps 1 14 [.ref l0, .retAddr 0, .retAddr 0, .retAddr 0, .retAddr 0, .retAddr 0, .retAddr 0] [.ref l0] rfl ?_
  obtain ⟨u7, hu7, h⟩ := Option.bind_eq_some_iff.mp h
  obtain ⟨y4, hy4, h⟩ := Option.bind_eq_some_iff.mp h
  refine rn_callV [] rfl rfl ⟨rfl, rfl⟩ hu7 rfl rfl (e170 d hy4) ?_
  refine rn_steps 0 17 [.ref l0, .retAddr 0, .retAddr 0, .retAddr 0, .retAddr 0, .retAddr 0, .retAddr 0] [.int y4.1] rfl ?_
  refine rn_br (c := ¬ y4.1 = 0) rfl rfl decide_eq_true_iff (fun hb => ?_) (fun hb => ?_)
  · rw [if_neg hb] at h
    refine rn_steps 0 25 [.ref l0, .retAddr 0, .retAddr 0, .retAddr 0, .retAddr 0, .retAddr 0, .retAddr 0] [] rfl ?_
    exact e176_25 d _ _ _ _ _ _ _ _ _ h
  · rw [if_pos (Decidable.not_not.mp hb)] at h
    refine rn_steps 2 22 [.ref l0, .retAddr 0, .retAddr 0, .retAddr 0, .retAddr 0, .retAddr 0, .retAddr 0] [.int 1, .ref l0] rfl ?_
    obtain ⟨u6, hu6, h⟩ := Option.bind_eq_some_iff.mp h
    obtain ⟨y5, hy5, h⟩ := Option.bind_eq_some_iff.mp h
    refine rn_callV [.int 1] rfl rfl ⟨rfl, rfl⟩ hu6 rfl rfl (e166 (d + 7) hy5) ?_
    refine rn_steps 0 25 [.ref l0, .retAddr 0, .retAddr 0, .retAddr 0, .retAddr 0, .retAddr 0, .retAddr 0] [] rfl ?_
    exact e176_25 d _ _ _ _ _ _ _ _ _ h
noncomputable def f177_61 (l0 : Nat) (l1 : Int32) (l2 : Int32) (σ : xM) : Option xM :=
  (cO σ l0 9).bind fun u14 =>
  (f165 l0 σ).bind fun y1 =>
  (gI y1 l0 9 9).bind fun v2 =>
  if v2 = 5 then
  some y1
  else
  (gR y1 l0 9 4).bind fun r3 =>
  (gR y1 r3 8 10).bind fun r4 =>
  (aI y1 r4 l1).bind fun v5 =>
  (tI y1 r4 l1 (v5 ||| (1 <<< (l2 &&& 31)))).bind fun σ6 =>
  (gR σ6 l0 9 4).bind fun r7 =>
  (gR σ6 r7 8 10).bind fun r8 =>
  (aI σ6 r8 l2).bind fun v9 =>
  (tI σ6 r8 l2 (v9 ||| (1 <<< (l1 &&& 31)))).bind fun σ10 =>
  (gR σ10 l0 9 4).bind fun r11 =>
  (gI σ10 r11 8 3).bind fun v12 =>
  (pI σ10 r11 8 3 (v12 + 1)).bind fun σ13 =>
  some σ13
set_option maxRecDepth 20000 in
set_option maxHeartbeats 1000000 in
theorem e177_61 (d : Nat) (l0 : Nat) (l1 : Int32) (l2 : Int32) (σ : xM) (y : xM) (h : f177_61 l0 l1 l2 σ = some y) : Rn (d + 9) 177 61 [.ref l0, .int l1, .int l2] [] σ (none, y) := by
  unfold f177_61 at h
  refine rn_steps 1 62 [.ref l0, .int l1, .int l2] [.ref l0] rfl ?_
  obtain ⟨u14, hu14, h⟩ := Option.bind_eq_some_iff.mp h
  obtain ⟨y1, hy1, h⟩ := Option.bind_eq_some_iff.mp h
  refine rn_callV [] rfl rfl ⟨rfl, rfl⟩ hu14 rfl rfl (e165 (d + 7) hy1) ?_
  refine rn_steps 1 66 [.ref l0, .int l1, .int l2] [.ref l0] rfl ?_
  obtain ⟨v2, hv2, h⟩ := Option.bind_eq_some_iff.mp h
  refine rn_gI (c := 9) (f := 9) rfl rfl ⟨⟨rfl, rfl⟩, Or.inl rfl⟩ hv2 ?_
  refine rn_steps 1 70 [.ref l0, .int l1, .int l2] [.int 5, .int v2] rfl ?_
  refine rn_br (c := ¬ v2 = 5) rfl rfl decide_eq_true_iff (fun hb => ?_) (fun hb => ?_)
  · rw [if_neg hb] at h
    refine rn_steps 1 75 [.ref l0, .int l1, .int l2] [.ref l0] rfl ?_
    obtain ⟨r3, hr3, h⟩ := Option.bind_eq_some_iff.mp h
    refine rn_gR (c := 9) (f := 4) rfl rfl ⟨⟨rfl, rfl⟩, rfl⟩ hr3 ?_
    refine rn_steps 0 78 [.ref l0, .int l1, .int l2] [.ref r3] rfl ?_
    obtain ⟨r4, hr4, h⟩ := Option.bind_eq_some_iff.mp h
    refine rn_gR (c := 8) (f := 10) rfl rfl ⟨⟨rfl, rfl⟩, rfl⟩ hr4 ?_
    refine rn_steps 2 83 [.ref l0, .int l1, .int l2] [.int l1, .ref r4, .int l1, .ref r4] rfl ?_
    obtain ⟨v5, hv5, h⟩ := Option.bind_eq_some_iff.mp h
    refine rn_aI rfl hv5 ?_
    refine rn_steps 4 88 [.ref l0, .int l1, .int l2] [.int (v5 ||| (1 <<< (l2 &&& 31))), .int l1, .ref r4] rfl ?_
    obtain ⟨σ6, hσ6, h⟩ := Option.bind_eq_some_iff.mp h
    refine rn_tI rfl hσ6 ?_
    refine rn_steps 1 90 [.ref l0, .int l1, .int l2] [.ref l0] rfl ?_
    obtain ⟨r7, hr7, h⟩ := Option.bind_eq_some_iff.mp h
    refine rn_gR (c := 9) (f := 4) rfl rfl ⟨⟨rfl, rfl⟩, rfl⟩ hr7 ?_
    refine rn_steps 0 93 [.ref l0, .int l1, .int l2] [.ref r7] rfl ?_
    obtain ⟨r8, hr8, h⟩ := Option.bind_eq_some_iff.mp h
    refine rn_gR (c := 8) (f := 10) rfl rfl ⟨⟨rfl, rfl⟩, rfl⟩ hr8 ?_
    refine rn_steps 2 98 [.ref l0, .int l1, .int l2] [.int l2, .ref r8, .int l2, .ref r8] rfl ?_
    obtain ⟨v9, hv9, h⟩ := Option.bind_eq_some_iff.mp h
    refine rn_aI rfl hv9 ?_
    refine rn_steps 4 103 [.ref l0, .int l1, .int l2] [.int (v9 ||| (1 <<< (l1 &&& 31))), .int l2, .ref r8] rfl ?_
    obtain ⟨σ10, hσ10, h⟩ := Option.bind_eq_some_iff.mp h
    refine rn_tI rfl hσ10 ?_
    refine rn_steps 1 105 [.ref l0, .int l1, .int l2] [.ref l0] rfl ?_
    obtain ⟨r11, hr11, h⟩ := Option.bind_eq_some_iff.mp h
    refine rn_gR (c := 9) (f := 4) rfl rfl ⟨⟨rfl, rfl⟩, rfl⟩ hr11 ?_
    refine rn_steps 1 109 [.ref l0, .int l1, .int l2] [.ref r11, .ref r11] rfl ?_
    obtain ⟨v12, hv12, h⟩ := Option.bind_eq_some_iff.mp h
    refine rn_gI (c := 8) (f := 3) rfl rfl ⟨⟨rfl, rfl⟩, Or.inl rfl⟩ hv12 ?_
    refine rn_steps 2 114 [.ref l0, .int l1, .int l2] [.int (v12 + 1), .ref r11] rfl ?_
    obtain ⟨σ13, hσ13, h⟩ := Option.bind_eq_some_iff.mp h
    refine rn_pI (c := 8) (f := 3) rfl rfl ⟨⟨rfl, rfl⟩, rfl⟩ hσ13 ?_
    refine rn_steps 0 117 [.ref l0, .int l1, .int l2] [] rfl ?_
    cases h
    exact rn_ret rfl rfl rfl
  · rw [if_pos (Decidable.not_not.mp hb)] at h
    refine rn_steps 0 73 [.ref l0, .int l1, .int l2] [] rfl ?_
    cases h
    exact rn_ret rfl rfl rfl
noncomputable def f177_56 (l0 : Nat) (l1 : Int32) (l2 : Int32) (σ : xM) : Option xM :=
  (cO σ l0 9).bind fun u2 =>
  (f166 l0 3 σ).bind fun y1 =>
  f177_61 l0 l1 l2 y1
set_option maxRecDepth 20000 in
set_option maxHeartbeats 1000000 in
theorem e177_56 (d : Nat) (l0 : Nat) (l1 : Int32) (l2 : Int32) (σ : xM) (y : xM) (h : f177_56 l0 l1 l2 σ = some y) : Rn (d + 9) 177 56 [.ref l0, .int l1, .int l2] [] σ (none, y) := by
  unfold f177_56 at h
  refine rn_steps 2 58 [.ref l0, .int l1, .int l2] [.int 3, .ref l0] rfl ?_
  obtain ⟨u2, hu2, h⟩ := Option.bind_eq_some_iff.mp h
  obtain ⟨y1, hy1, h⟩ := Option.bind_eq_some_iff.mp h
  refine rn_callV [.int 3] rfl rfl ⟨rfl, rfl⟩ hu2 rfl rfl (e166 (d + 8) hy1) ?_
  refine rn_steps 0 61 [.ref l0, .int l1, .int l2] [] rfl ?_
  exact e177_61 d _ _ _ _ _ h
/-- LastAskedModel.readNear()V -/
noncomputable def f177 (l0 : Nat) (σ : xM) : Option xM :=
  (gR σ l0 9 4).bind fun r1 =>
  (gI σ r1 8 3).bind fun v2 =>
  (cO σ l0 9).bind fun u15 =>
  (f171 l0 v2 9 σ).bind fun y3 =>
  (cO y3 l0 9).bind fun u14 =>
  (f172 l0 y3).bind fun y4 =>
  (cO y4.2 l0 9).bind fun u13 =>
  (f165 l0 y4.2).bind fun y5 =>
  (cO y5 l0 9).bind fun u12 =>
  (f172 l0 y5).bind fun y6 =>
  (gI y6.2 l0 9 9).bind fun v7 =>
  if v7 = 5 then
  f177_61 l0 y4.1 y6.1 y6.2
  else
  if y4.1 = y6.1 then
  f177_56 l0 y4.1 y6.1 y6.2
  else
  (gR y6.2 l0 9 4).bind fun r8 =>
  (gR y6.2 r8 8 10).bind fun r9 =>
  (aI y6.2 r9 y4.1).bind fun v10 =>
  (f157 v10 y6.1 y6.2).bind fun y11 =>
  if y11.1 = 0 then
  f177_61 l0 y4.1 y6.1 y11.2
  else
  f177_56 l0 y4.1 y6.1 y11.2
set_option maxRecDepth 20000 in
set_option maxHeartbeats 1000000 in
theorem e177 (d : Nat) {l0 : Nat} {σ : xM} {y : xM} (h : f177 l0 σ = some y) : Rn (d + 9) 177 0 [.ref l0, .retAddr 0, .retAddr 0] [] σ (none, y) := by
  unfold f177 at h
  refine rn_steps 2 2 [.ref l0, .retAddr 0, .retAddr 0] [.ref l0, .ref l0] rfl ?_
  obtain ⟨r1, hr1, h⟩ := Option.bind_eq_some_iff.mp h
  refine rn_gR (c := 9) (f := 4) rfl rfl ⟨⟨rfl, rfl⟩, rfl⟩ hr1 ?_
  refine rn_steps 0 5 [.ref l0, .retAddr 0, .retAddr 0] [.ref r1, .ref l0] rfl ?_
  obtain ⟨v2, hv2, h⟩ := Option.bind_eq_some_iff.mp h
  refine rn_gI (c := 8) (f := 3) rfl rfl ⟨⟨rfl, rfl⟩, Or.inl rfl⟩ hv2 ?_
  refine rn_steps 1 10 [.ref l0, .retAddr 0, .retAddr 0] [.int 9, .int v2, .ref l0] rfl ?_
  obtain ⟨u15, hu15, h⟩ := Option.bind_eq_some_iff.mp h
  obtain ⟨y3, hy3, h⟩ := Option.bind_eq_some_iff.mp h
  refine rn_callV [.int v2, .int 9] rfl rfl ⟨rfl, rfl⟩ hu15 rfl rfl (e171 (d + 6) hy3) ?_
  refine rn_steps 1 14 [.ref l0, .retAddr 0, .retAddr 0] [.ref l0] rfl ?_
  obtain ⟨u14, hu14, h⟩ := Option.bind_eq_some_iff.mp h
  obtain ⟨y4, hy4, h⟩ := Option.bind_eq_some_iff.mp h
  refine rn_callV [] rfl rfl ⟨rfl, rfl⟩ hu14 rfl rfl (e172 d hy4) ?_
  refine rn_steps 2 19 [.ref l0, .int y4.1, .retAddr 0] [.ref l0] rfl ?_
  obtain ⟨u13, hu13, h⟩ := Option.bind_eq_some_iff.mp h
  obtain ⟨y5, hy5, h⟩ := Option.bind_eq_some_iff.mp h
  refine rn_callV [] rfl rfl ⟨rfl, rfl⟩ hu13 rfl rfl (e165 (d + 7) hy5) ?_
  refine rn_steps 1 23 [.ref l0, .int y4.1, .retAddr 0] [.ref l0] rfl ?_
  obtain ⟨u12, hu12, h⟩ := Option.bind_eq_some_iff.mp h
  obtain ⟨y6, hy6, h⟩ := Option.bind_eq_some_iff.mp h
  refine rn_callV [] rfl rfl ⟨rfl, rfl⟩ hu12 rfl rfl (e172 d hy6) ?_
  refine rn_steps 2 28 [.ref l0, .int y4.1, .int y6.1] [.ref l0] rfl ?_
  obtain ⟨v7, hv7, h⟩ := Option.bind_eq_some_iff.mp h
  refine rn_gI (c := 9) (f := 9) rfl rfl ⟨⟨rfl, rfl⟩, Or.inl rfl⟩ hv7 ?_
  refine rn_steps 1 32 [.ref l0, .int y4.1, .int y6.1] [.int 5, .int v7] rfl ?_
  refine rn_br (c := v7 = 5) rfl rfl decide_eq_true_iff (fun hb => ?_) (fun hb => ?_)
  · rw [if_pos hb] at h
    refine rn_steps 0 61 [.ref l0, .int y4.1, .int y6.1] [] rfl ?_
    exact e177_61 d _ _ _ _ _ h
  · rw [if_neg hb] at h
    refine rn_steps 2 37 [.ref l0, .int y4.1, .int y6.1] [.int y6.1, .int y4.1] rfl ?_
    refine rn_br (c := y4.1 = y6.1) rfl rfl decide_eq_true_iff (fun hb => ?_) (fun hb => ?_)
    · rw [if_pos hb] at h
      refine rn_steps 0 56 [.ref l0, .int y4.1, .int y6.1] [] rfl ?_
      exact e177_56 d _ _ _ _ _ h
    · rw [if_neg hb] at h
      refine rn_steps 1 41 [.ref l0, .int y4.1, .int y6.1] [.ref l0] rfl ?_
      obtain ⟨r8, hr8, h⟩ := Option.bind_eq_some_iff.mp h
      refine rn_gR (c := 9) (f := 4) rfl rfl ⟨⟨rfl, rfl⟩, rfl⟩ hr8 ?_
      refine rn_steps 0 44 [.ref l0, .int y4.1, .int y6.1] [.ref r8] rfl ?_
      obtain ⟨r9, hr9, h⟩ := Option.bind_eq_some_iff.mp h
      refine rn_gR (c := 8) (f := 10) rfl rfl ⟨⟨rfl, rfl⟩, rfl⟩ hr9 ?_
      refine rn_steps 1 48 [.ref l0, .int y4.1, .int y6.1] [.int y4.1, .ref r9] rfl ?_
      obtain ⟨v10, hv10, h⟩ := Option.bind_eq_some_iff.mp h
      refine rn_aI rfl hv10 ?_
      refine rn_steps 1 50 [.ref l0, .int y4.1, .int y6.1] [.int y6.1, .int v10] rfl ?_
      obtain ⟨y11, hy11, h⟩ := Option.bind_eq_some_iff.mp h
      refine rn_callS [.int v10, .int y6.1] rfl rfl rfl ⟨rfl, rfl, rfl⟩ rfl rfl (e157 (d + 8) hy11) ?_
      refine rn_steps 0 53 [.ref l0, .int y4.1, .int y6.1] [.int y11.1] rfl ?_
      refine rn_br (c := y11.1 = 0) rfl rfl decide_eq_true_iff (fun hb => ?_) (fun hb => ?_)
      · rw [if_pos hb] at h
        refine rn_steps 0 61 [.ref l0, .int y4.1, .int y6.1] [] rfl ?_
        exact e177_61 d _ _ _ _ _ h
      · rw [if_neg hb] at h
        refine rn_steps 0 56 [.ref l0, .int y4.1, .int y6.1] [] rfl ?_
        exact e177_56 d _ _ _ _ _ h
