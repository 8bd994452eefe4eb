noncomputable def f222_99 (l0 : Nat) (l3 : Int32) (l4 : Int64) (σ : xM) : Option (Int64 × xM) :=
  (gJ σ l0 9 25).bind fun v1 =>
  (cO σ l0 9).bind fun u3 =>
  (f160 l0 l4 v1 l3 σ).bind fun y2 =>
  some (y2.1, y2.2)
set_option maxRecDepth 20000 in
set_option maxHeartbeats 1000000 in
theorem e222_99 (d : Nat) (l0 : Nat) (l3 : Int32) (l4 : Int64) (x1 x2 x6 : Value) (σ : xM) (y : Int64 × xM) (h : f222_99 l0 l3 l4 σ = some y) : Rn (d + 5) 222 99 [.ref l0, x1, x2, .int l3, .long l4, .retAddr 1, x6] [] σ (some (.long y.1), y.2) := by
  unfold f222_99 at h
  refine rn_steps 3 103 [.ref l0, x1, x2, .int l3, .long l4, .retAddr 1, x6] [.ref l0, .long l4, .ref l0] rfl ?_
  obtain ⟨v1, hv1, h⟩ := Option.bind_eq_some_iff.mp h
  refine rn_gJ (c := 9) (f := 25) rfl rfl ⟨⟨rfl, rfl⟩, rfl⟩ hv1 ?_
  refine rn_steps 1 107 [.ref l0, x1, x2, .int l3, .long l4, .retAddr 1, x6] [.int l3, .long v1, .long l4, .ref l0] rfl ?_
  obtain ⟨u3, hu3, h⟩ := Option.bind_eq_some_iff.mp h
  obtain ⟨y2, hy2, h⟩ := Option.bind_eq_some_iff.mp h
  refine rn_callV [.long l4, .long v1, .int l3] rfl rfl ⟨rfl, rfl⟩ hu3 rfl rfl (e160 (d + 3) hy2) ?_
  refine rn_steps 0 110 [.ref l0, x1, x2, .int l3, .long l4, .retAddr 1, x6] [.long y2.1] rfl ?_
  cases h
  exact rn_ret rfl rfl rfl
noncomputable def f222_93 (K35 : Nat → Int32 → Int32 → Int32 → Int64 → Int32 → xM → Option (Int64 × xM)) (l0 : Nat) (l1 : Int32) (l2 : Int32) (l3 : Int32) (l4 : Int64) (l6 : Int32) (σ : xM) : Option (Int64 × xM) :=
  K35 l0 l1 l2 l3 l4 (l6 + 1) σ
set_option maxRecDepth 20000 in
set_option maxHeartbeats 1000000 in
theorem e222_93 (d : Nat) (K35 : Nat → Int32 → Int32 → Int32 → Int64 → Int32 → xM → Option (Int64 × xM)) (hK35 : ∀ (l0 : Nat) (l1 : Int32) (l2 : Int32) (l3 : Int32) (l4 : Int64) (l6 : Int32) (σ : xM) (y : Int64 × xM), K35 l0 l1 l2 l3 l4 l6 σ = some y → Rn (d + 5) 222 35 [.ref l0, .int l1, .int l2, .int l3, .long l4, .retAddr 1, .int l6] [] σ (some (.long y.1), y.2)) (l0 : Nat) (l1 : Int32) (l2 : Int32) (l3 : Int32) (l4 : Int64) (l6 : Int32) (σ : xM) (y : Int64 × xM) (h : f222_93 K35 l0 l1 l2 l3 l4 l6 σ = some y) : Rn (d + 5) 222 93 [.ref l0, .int l1, .int l2, .int l3, .long l4, .retAddr 1, .int l6] [] σ (some (.long y.1), y.2) := by
  unfold f222_93 at h
  refine rn_steps 2 35 [.ref l0, .int l1, .int l2, .int l3, .long l4, .retAddr 1, .int (l6 + 1)] [] rfl ?_
  exact hK35 _ _ _ _ _ _ _ _ h
noncomputable def f222_35 : Nat → Nat → Int32 → Int32 → Int32 → Int64 → Int32 → xM → Option (Int64 × xM)
  | 0, _, _, _, _, _, _, _ => none
  | n + 1, l0, l1, l2, l3, l4, l6, σ =>
    (gR σ l0 9 17).bind fun r1 =>
    (aI σ r1 42).bind fun v2 =>
    if v2 < l6 then
    f222_99 l0 l3 l4 σ
    else
    (gR σ l0 9 17).bind fun r3 =>
    (aI σ r3 42).bind fun v4 =>
    if (l6 &&& (v4 ^^^ (-1))) = 0 then
    (f157 l6 l1 σ).bind fun y5 =>
    if y5.1 = 0 then
    f222_93 (f222_35 n) l0 l1 l2 l3 l4 l6 y5.2
    else
    (cO y5.2 l0 9).bind fun u9 =>
    (f194 l0 l1 l6 y5.2).bind fun y6 =>
    if y6.1 = l2 then
    (cO y6.2 l0 9).bind fun u8 =>
    (f217 l0 l6 y6.2).bind fun y7 =>
    f222_93 (f222_35 n) l0 l1 l2 l3 (l4 + y7.1) l6 y7.2
    else
    f222_93 (f222_35 n) l0 l1 l2 l3 l4 l6 y6.2
    else
    f222_93 (f222_35 n) l0 l1 l2 l3 l4 l6 σ
set_option maxRecDepth 20000 in
set_option maxHeartbeats 1000000 in
theorem e222_35 (d : Nat) : ∀ (n : Nat) (l0 : Nat) (l1 : Int32) (l2 : Int32) (l3 : Int32) (l4 : Int64) (l6 : Int32) (σ : xM) (y : Int64 × xM), f222_35 n l0 l1 l2 l3 l4 l6 σ = some y → Rn (d + 5) 222 35 [.ref l0, .int l1, .int l2, .int l3, .long l4, .retAddr 1, .int l6] [] σ (some (.long y.1), y.2) := by
  intro n
  induction n with
  | zero => intro l0 l1 l2 l3 l4 l6 σ y h; cases h
  | succ n ih =>
    intro l0 l1 l2 l3 l4 l6 σ y h
    unfold f222_35 at h
    refine rn_steps 2 38 [.ref l0, .int l1, .int l2, .int l3, .long l4, .retAddr 1, .int l6] [.ref l0, .int l6] rfl ?_
    obtain ⟨r1, hr1, h⟩ := Option.bind_eq_some_iff.mp h
    refine rn_gR (c := 9) (f := 17) rfl rfl ⟨⟨rfl, rfl⟩, rfl⟩ hr1 ?_
    refine rn_steps 1 43 [.ref l0, .int l1, .int l2, .int l3, .long l4, .retAddr 1, .int l6] [.int 42, .ref r1, .int l6] rfl ?_
    obtain ⟨v2, hv2, h⟩ := Option.bind_eq_some_iff.mp h
    refine rn_aI rfl hv2 ?_
    refine rn_steps 0 44 [.ref l0, .int l1, .int l2, .int l3, .long l4, .retAddr 1, .int l6] [.int v2, .int l6] rfl ?_
    refine rn_br (c := v2 < l6) rfl rfl decide_eq_true_iff (fun hb => ?_) (fun hb => ?_)
    · rw [if_pos hb] at h
      refine rn_steps 0 99 [.ref l0, .int l1, .int l2, .int l3, .long l4, .retAddr 1, .int l6] [] rfl ?_
      exact e222_99 d _ _ _ _ _ _ _ _ h
    · rw [if_neg hb] at h
      refine rn_steps 2 50 [.ref l0, .int l1, .int l2, .int l3, .long l4, .retAddr 1, .int l6] [.ref l0, .int l6] rfl ?_
      obtain ⟨r3, hr3, h⟩ := Option.bind_eq_some_iff.mp h
      refine rn_gR (c := 9) (f := 17) rfl rfl ⟨⟨rfl, rfl⟩, rfl⟩ hr3 ?_
      refine rn_steps 1 55 [.ref l0, .int l1, .int l2, .int l3, .long l4, .retAddr 1, .int l6] [.int 42, .ref r3, .int l6] rfl ?_
      obtain ⟨v4, hv4, h⟩ := Option.bind_eq_some_iff.mp h
      refine rn_aI rfl hv4 ?_
      refine rn_steps 3 59 [.ref l0, .int l1, .int l2, .int l3, .long l4, .retAddr 1, .int l6] [.int (l6 &&& (v4 ^^^ (-1)))] rfl ?_
      refine rn_br (c := ¬ (l6 &&& (v4 ^^^ (-1))) = 0) rfl rfl decide_eq_true_iff (fun hb => ?_) (fun hb => ?_)
      · rw [if_neg hb] at h
        refine rn_steps 0 93 [.ref l0, .int l1, .int l2, .int l3, .long l4, .retAddr 1, .int l6] [] rfl ?_
        exact e222_93 d _ ih _ _ _ _ _ _ _ _ h
      · rw [if_pos (Decidable.not_not.mp hb)] at h
        refine rn_steps 2 65 [.ref l0, .int l1, .int l2, .int l3, .long l4, .retAddr 1, .int l6] [.int l1, .int l6] rfl ?_
        obtain ⟨y5, hy5, h⟩ := Option.bind_eq_some_iff.mp h
        refine rn_callS [.int l6, .int l1] rfl rfl rfl ⟨rfl, rfl, rfl⟩ rfl rfl (e157 (d + 4) hy5) ?_
        refine rn_steps 0 68 [.ref l0, .int l1, .int l2, .int l3, .long l4, .retAddr 1, .int l6] [.int y5.1] rfl ?_
        refine rn_br (c := y5.1 = 0) rfl rfl decide_eq_true_iff (fun hb => ?_) (fun hb => ?_)
        · rw [if_pos hb] at h
          refine rn_steps 0 93 [.ref l0, .int l1, .int l2, .int l3, .long l4, .retAddr 1, .int l6] [] rfl ?_
          exact e222_93 d _ ih _ _ _ _ _ _ _ _ h
        · rw [if_neg hb] at h
          refine rn_steps 3 75 [.ref l0, .int l1, .int l2, .int l3, .long l4, .retAddr 1, .int l6] [.int l6, .int l1, .ref l0] rfl ?_
          obtain ⟨u9, hu9, h⟩ := Option.bind_eq_some_iff.mp h
          obtain ⟨y6, hy6, h⟩ := Option.bind_eq_some_iff.mp h
          refine rn_callV [.int l1, .int l6] rfl rfl ⟨rfl, rfl⟩ hu9 rfl rfl (e194 (d + 3) hy6) ?_
          refine rn_steps 1 79 [.ref l0, .int l1, .int l2, .int l3, .long l4, .retAddr 1, .int l6] [.int l2, .int y6.1] rfl ?_
          refine rn_br (c := ¬ y6.1 = l2) rfl rfl decide_eq_true_iff (fun hb => ?_) (fun hb => ?_)
          · rw [if_neg hb] at h
            refine rn_steps 0 93 [.ref l0, .int l1, .int l2, .int l3, .long l4, .retAddr 1, .int l6] [] rfl ?_
            exact e222_93 d _ ih _ _ _ _ _ _ _ _ h
          · rw [if_pos (Decidable.not_not.mp hb)] at h
            refine rn_steps 3 87 [.ref l0, .int l1, .int l2, .int l3, .long l4, .retAddr 1, .int l6] [.int l6, .ref l0, .long l4] rfl ?_
            obtain ⟨u8, hu8, h⟩ := Option.bind_eq_some_iff.mp h
            obtain ⟨y7, hy7, h⟩ := Option.bind_eq_some_iff.mp h
            refine rn_callV [.int l6] rfl rfl ⟨rfl, rfl⟩ hu8 rfl rfl (e217 (d + 2) hy7) ?_
            refine rn_steps 2 93 [.ref l0, .int l1, .int l2, .int l3, .long (l4 + y7.1), .retAddr 1, .int l6] [] rfl ?_
            exact e222_93 d _ ih _ _ _ _ _ _ _ _ h
/-- LastAskedModel.passes(IIZ)J -/
noncomputable def f222 (l0 : Nat) (l1 : Int32) (l2 : Int32) (l3 : Int32) (σ : xM) : Option (Int64 × xM) :=
  (pI σ l0 9 0 0).bind fun σ1 =>
  (cO σ1 l0 9).bind fun u9 =>
  (f187 l0 l1 l2 σ1).bind fun y2 =>
  if y2.1 = 0 then
  (cO y2.2 l0 9).bind fun u8 =>
  (f151 l0 1 y2.2).bind fun y7 =>
  some (y7.1.toInt64, y7.2)
  else
  (cO y2.2 l0 9).bind fun u6 =>
  (f197 l0 y2.2).bind fun y3 =>
  (cO y3 l0 9).bind fun u5 =>
  (f218 l0 y3).bind fun y4 =>
  f222_35 1100 l0 l1 l2 l3 0 0 y4
set_option maxRecDepth 20000 in
set_option maxHeartbeats 1000000 in
theorem e222 (d : Nat) {l0 : Nat} {l1 : Int32} {l2 : Int32} {l3 : Int32} {σ : xM} {y : Int64 × xM} (h : f222 l0 l1 l2 l3 σ = some y) : Rn (d + 5) 222 0 [.ref l0, .int l1, .int l2, .int l3, .retAddr 0, .retAddr 0, .retAddr 0] [] σ (some (.long y.1), y.2) := by
  unfold f222 at h
  refine rn_steps 2 2 [.ref l0, .int l1, .int l2, .int l3, .retAddr 0, .retAddr 0, .retAddr 0] [.int 0, .ref l0] rfl ?_
  obtain ⟨σ1, hσ1, h⟩ := Option.bind_eq_some_iff.mp h
  refine rn_pI (c := 9) (f := 0) rfl rfl ⟨⟨rfl, rfl⟩, rfl⟩ hσ1 ?_
  refine rn_steps 3 8 [.ref l0, .int l1, .int l2, .int l3, .retAddr 0, .retAddr 0, .retAddr 0] [.int l2, .int l1, .ref l0] rfl ?_
  obtain ⟨u9, hu9, h⟩ := Option.bind_eq_some_iff.mp h
  obtain ⟨y2, hy2, h⟩ := Option.bind_eq_some_iff.mp h
  refine rn_callV [.int l1, .int l2] rfl rfl ⟨rfl, rfl⟩ hu9 rfl rfl (e187 (d + 3) hy2) ?_
  refine rn_steps 0 11 [.ref l0, .int l1, .int l2, .int l3, .retAddr 0, .retAddr 0, .retAddr 0] [.int y2.1] rfl ?_
  refine rn_br (c := ¬ y2.1 = 0) rfl rfl decide_eq_true_iff (fun hb => ?_) (fun hb => ?_)
  · rw [if_neg hb] at h
    refine rn_steps 1 22 [.ref l0, .int l1, .int l2, .int l3, .retAddr 0, .retAddr 0, .retAddr 0] [.ref l0] rfl ?_
    obtain ⟨u6, hu6, h⟩ := Option.bind_eq_some_iff.mp h
    obtain ⟨y3, hy3, h⟩ := Option.bind_eq_some_iff.mp h
    refine rn_callV [] rfl rfl ⟨rfl, rfl⟩ hu6 rfl rfl (e197 d hy3) ?_
    refine rn_steps 1 26 [.ref l0, .int l1, .int l2, .int l3, .retAddr 0, .retAddr 0, .retAddr 0] [.ref l0] rfl ?_
    obtain ⟨u5, hu5, h⟩ := Option.bind_eq_some_iff.mp h
    obtain ⟨y4, hy4, h⟩ := Option.bind_eq_some_iff.mp h
    refine rn_callV [] rfl rfl ⟨rfl, rfl⟩ hu5 rfl rfl (e218 (d + 2) hy4) ?_
    refine rn_steps 4 35 [.ref l0, .int l1, .int l2, .int l3, .long 0, .retAddr 1, .int 0] [] rfl ?_
    exact e222_35 d 1100 _ _ _ _ _ _ _ _ h
  · rw [if_pos (Decidable.not_not.mp hb)] at h
    refine rn_steps 2 16 [.ref l0, .int l1, .int l2, .int l3, .retAddr 0, .retAddr 0, .retAddr 0] [.int 1, .ref l0] rfl ?_
    obtain ⟨u8, hu8, h⟩ := Option.bind_eq_some_iff.mp h
    obtain ⟨y7, hy7, h⟩ := Option.bind_eq_some_iff.mp h
    refine rn_callV [.int 1] rfl rfl ⟨rfl, rfl⟩ hu8 rfl rfl (e151 (d + 4) hy7) ?_
    refine rn_steps 1 20 [.ref l0, .int l1, .int l2, .int l3, .retAddr 0, .retAddr 0, .retAddr 0] [.long y7.1.toInt64] rfl ?_
    cases h
    exact rn_ret rfl rfl rfl
noncomputable def f223_89 (l0 : Nat) (l1 : Int32) (l2 : Int64) (σ : xM) : Option (Int64 × xM) :=
  (gJ σ l0 9 25).bind fun v1 =>
  (cO σ l0 9).bind fun u3 =>
  (f160 l0 l2 v1 l1 σ).bind fun y2 =>
  some (y2.1, y2.2)
set_option maxRecDepth 20000 in
set_option maxHeartbeats 1000000 in
theorem e223_89 (d : Nat) (l0 : Nat) (l1 : Int32) (l2 : Int64) (x4 : Value) (σ : xM) (y : Int64 × xM) (h : f223_89 l0 l1 l2 σ = some y) : Rn (d + 5) 223 89 [.ref l0, .int l1, .long l2, .retAddr 1, x4] [] σ (some (.long y.1), y.2) := by
  unfold f223_89 at h
  refine rn_steps 3 92 [.ref l0, .int l1, .long l2, .retAddr 1, x4] [.ref l0, .long l2, .ref l0] rfl ?_
  obtain ⟨v1, hv1, h⟩ := Option.bind_eq_some_iff.mp h
  refine rn_gJ (c := 9) (f := 25) rfl rfl ⟨⟨rfl, rfl⟩, rfl⟩ hv1 ?_
  refine rn_steps 1 96 [.ref l0, .int l1, .long l2, .retAddr 1, x4] [.int l1, .long v1, .long l2, .ref l0] rfl ?_
  obtain ⟨u3, hu3, h⟩ := Option.bind_eq_some_iff.mp h
  obtain ⟨y2, hy2, h⟩ := Option.bind_eq_some_iff.mp h
  refine rn_callV [.long l2, .long v1, .int l1] rfl rfl ⟨rfl, rfl⟩ hu3 rfl rfl (e160 (d + 3) hy2) ?_
  refine rn_steps 0 99 [.ref l0, .int l1, .long l2, .retAddr 1, x4] [.long y2.1] rfl ?_
  cases h
  exact rn_ret rfl rfl rfl
noncomputable def f223_83 (K32 : Nat → Int32 → Int64 → Int32 → xM → Option (Int64 × xM)) (l0 : Nat) (l1 : Int32) (l2 : Int64) (l4 : Int32) (σ : xM) : Option (Int64 × xM) :=
  K32 l0 l1 l2 (l4 + 1) σ
set_option maxRecDepth 20000 in
set_option maxHeartbeats 1000000 in
theorem e223_83 (d : Nat) (K32 : Nat → Int32 → Int64 → Int32 → xM → Option (Int64 × xM)) (hK32 : ∀ (l0 : Nat) (l1 : Int32) (l2 : Int64) (l4 : Int32) (σ : xM) (y : Int64 × xM), K32 l0 l1 l2 l4 σ = some y → Rn (d + 5) 223 32 [.ref l0, .int l1, .long l2, .retAddr 1, .int l4] [] σ (some (.long y.1), y.2)) (l0 : Nat) (l1 : Int32) (l2 : Int64) (l4 : Int32) (σ : xM) (y : Int64 × xM) (h : f223_83 K32 l0 l1 l2 l4 σ = some y) : Rn (d + 5) 223 83 [.ref l0, .int l1, .long l2, .retAddr 1, .int l4] [] σ (some (.long y.1), y.2) := by
  unfold f223_83 at h
  refine rn_steps 2 32 [.ref l0, .int l1, .long l2, .retAddr 1, .int (l4 + 1)] [] rfl ?_
  exact hK32 _ _ _ _ _ _ h
noncomputable def f223_32 : Nat → Nat → Int32 → Int64 → Int32 → xM → Option (Int64 × xM)
  | 0, _, _, _, _, _ => none
  | n + 1, l0, l1, l2, l4, σ =>
    (gR σ l0 9 17).bind fun r1 =>
    (aI σ r1 42).bind fun v2 =>
    if v2 < l4 then
    f223_89 l0 l1 l2 σ
    else
    (gR σ l0 9 17).bind fun r3 =>
    (aI σ r3 42).bind fun v4 =>
    if (l4 &&& (v4 ^^^ (-1))) = 0 then
    (cO σ l0 9).bind fun u9 =>
    (f195 l0 l4 σ).bind fun y5 =>
    (cO y5 l0 9).bind fun u8 =>
    (f217 l0 l4 y5).bind fun y6 =>
    (gI y6.2 l0 9 24).bind fun v7 =>
    f223_83 (f223_32 n) l0 l1 (l2 + (y6.1 * v7.toInt64)) l4 y6.2
    else
    f223_83 (f223_32 n) l0 l1 l2 l4 σ
set_option maxRecDepth 20000 in
set_option maxHeartbeats 1000000 in
theorem e223_32 (d : Nat) : ∀ (n : Nat) (l0 : Nat) (l1 : Int32) (l2 : Int64) (l4 : Int32) (σ : xM) (y : Int64 × xM), f223_32 n l0 l1 l2 l4 σ = some y → Rn (d + 5) 223 32 [.ref l0, .int l1, .long l2, .retAddr 1, .int l4] [] σ (some (.long y.1), y.2) := by
  intro n
  induction n with
  | zero => intro l0 l1 l2 l4 σ y h; cases h
  | succ n ih =>
    intro l0 l1 l2 l4 σ y h
    unfold f223_32 at h
    refine rn_steps 2 35 [.ref l0, .int l1, .long l2, .retAddr 1, .int l4] [.ref l0, .int l4] rfl ?_
    obtain ⟨r1, hr1, h⟩ := Option.bind_eq_some_iff.mp h
    refine rn_gR (c := 9) (f := 17) rfl rfl ⟨⟨rfl, rfl⟩, rfl⟩ hr1 ?_
    refine rn_steps 1 40 [.ref l0, .int l1, .long l2, .retAddr 1, .int l4] [.int 42, .ref r1, .int l4] rfl ?_
    obtain ⟨v2, hv2, h⟩ := Option.bind_eq_some_iff.mp h
    refine rn_aI rfl hv2 ?_
    refine rn_steps 0 41 [.ref l0, .int l1, .long l2, .retAddr 1, .int l4] [.int v2, .int l4] rfl ?_
    refine rn_br (c := v2 < l4) rfl rfl decide_eq_true_iff (fun hb => ?_) (fun hb => ?_)
    · rw [if_pos hb] at h
      refine rn_steps 0 89 [.ref l0, .int l1, .long l2, .retAddr 1, .int l4] [] rfl ?_
      exact e223_89 d _ _ _ _ _ _ h
    · rw [if_neg hb] at h
      refine rn_steps 2 47 [.ref l0, .int l1, .long l2, .retAddr 1, .int l4] [.ref l0, .int l4] rfl ?_
      obtain ⟨r3, hr3, h⟩ := Option.bind_eq_some_iff.mp h
      refine rn_gR (c := 9) (f := 17) rfl rfl ⟨⟨rfl, rfl⟩, rfl⟩ hr3 ?_
      refine rn_steps 1 52 [.ref l0, .int l1, .long l2, .retAddr 1, .int l4] [.int 42, .ref r3, .int l4] rfl ?_
      obtain ⟨v4, hv4, h⟩ := Option.bind_eq_some_iff.mp h
      refine rn_aI rfl hv4 ?_
      refine rn_steps 3 56 [.ref l0, .int l1, .long l2, .retAddr 1, .int l4] [.int (l4 &&& (v4 ^^^ (-1)))] rfl ?_
      refine rn_br (c := (l4 &&& (v4 ^^^ (-1))) = 0) rfl rfl decide_eq_true_iff (fun hb => ?_) (fun hb => ?_)
      · rw [if_pos hb] at h
        refine rn_steps 2 65 [.ref l0, .int l1, .long l2, .retAddr 1, .int l4] [.int l4, .ref l0] rfl ?_
        obtain ⟨u9, hu9, h⟩ := Option.bind_eq_some_iff.mp h
        obtain ⟨y5, hy5, h⟩ := Option.bind_eq_some_iff.mp h
        refine rn_callV [.int l4] rfl rfl ⟨rfl, rfl⟩ hu9 rfl rfl (e195 (d + 2) hy5) ?_
        refine rn_steps 3 72 [.ref l0, .int l1, .long l2, .retAddr 1, .int l4] [.int l4, .ref l0, .long l2] rfl ?_
        obtain ⟨u8, hu8, h⟩ := Option.bind_eq_some_iff.mp h
        obtain ⟨y6, hy6, h⟩ := Option.bind_eq_some_iff.mp h
        refine rn_callV [.int l4] rfl rfl ⟨rfl, rfl⟩ hu8 rfl rfl (e217 (d + 2) hy6) ?_
        refine rn_steps 1 76 [.ref l0, .int l1, .long l2, .retAddr 1, .int l4] [.ref l0, .long y6.1, .long l2] rfl ?_
        obtain ⟨v7, hv7, h⟩ := Option.bind_eq_some_iff.mp h
        refine rn_gI (c := 9) (f := 24) rfl rfl ⟨⟨rfl, rfl⟩, Or.inl rfl⟩ hv7 ?_
        refine rn_steps 4 83 [.ref l0, .int l1, .long (l2 + (y6.1 * v7.toInt64)), .retAddr 1, .int l4] [] rfl ?_
        exact e223_83 d _ ih _ _ _ _ _ _ h
      · rw [if_neg hb] at h
        refine rn_steps 1 83 [.ref l0, .int l1, .long l2, .retAddr 1, .int l4] [] rfl ?_
        exact e223_83 d _ ih _ _ _ _ _ _ h
/-- LastAskedModel.catMean(Z)J -/
noncomputable def f223 (l0 : Nat) (l1 : Int32) (σ : xM) : Option (Int64 × xM) :=
  (pI σ l0 9 0 0).bind fun σ1 =>
  (gQ σ1 l0 9 3).bind fun q2 =>
  match q2 with
  | none =>
  (cO σ1 l0 9).bind fun u5 =>
  (f151 l0 1 σ1).bind fun y4 =>
  some (y4.1.toInt64, y4.2)
  | some b3 =>
  (cO σ1 l0 9).bind fun u9 =>
  (f197 l0 σ1).bind fun y6 =>
  (cO y6 l0 9).bind fun u8 =>
  (f218 l0 y6).bind fun y7 =>
  f223_32 1100 l0 l1 0 0 y7
set_option maxRecDepth 20000 in
set_option maxHeartbeats 1000000 in
theorem e223 (d : Nat) {l0 : Nat} {l1 : Int32} {σ : xM} {y : Int64 × xM} (h : f223 l0 l1 σ = some y) : Rn (d + 5) 223 0 [.ref l0, .int l1, .retAddr 0, .retAddr 0, .retAddr 0] [] σ (some (.long y.1), y.2) := by
  unfold f223 at h
  refine rn_steps 2 2 [.ref l0, .int l1, .retAddr 0, .retAddr 0, .retAddr 0] [.int 0, .ref l0] rfl ?_
  obtain ⟨σ1, hσ1, h⟩ := Option.bind_eq_some_iff.mp h
  refine rn_pI (c := 9) (f := 0) rfl rfl ⟨⟨rfl, rfl⟩, rfl⟩ hσ1 ?_
  refine rn_steps 1 6 [.ref l0, .int l1, .retAddr 0, .retAddr 0, .retAddr 0] [.ref l0] rfl ?_
  obtain ⟨q2, hq2, h⟩ := Option.bind_eq_some_iff.mp h
  refine rn_gQ (c := 9) (f := 3) rfl rfl ⟨⟨rfl, rfl⟩, rfl⟩ hq2 ?_
  cases q2 with
  | none =>
    dsimp only at h
    refine rn_steps 3 14 [.ref l0, .int l1, .retAddr 0, .retAddr 0, .retAddr 0] [.int 1, .ref l0] rfl ?_
    obtain ⟨u5, hu5, h⟩ := Option.bind_eq_some_iff.mp h
    obtain ⟨y4, hy4, h⟩ := Option.bind_eq_some_iff.mp h
    refine rn_callV [.int 1] rfl rfl ⟨rfl, rfl⟩ hu5 rfl rfl (e151 (d + 4) hy4) ?_
    refine rn_steps 1 18 [.ref l0, .int l1, .retAddr 0, .retAddr 0, .retAddr 0] [.long y4.1.toInt64] rfl ?_
    cases h
    exact rn_ret rfl rfl rfl
  | some b3 =>
    dsimp only at h
    refine rn_steps 2 20 [.ref l0, .int l1, .retAddr 0, .retAddr 0, .retAddr 0] [.ref l0] rfl ?_
    obtain ⟨u9, hu9, h⟩ := Option.bind_eq_some_iff.mp h
    obtain ⟨y6, hy6, h⟩ := Option.bind_eq_some_iff.mp h
    refine rn_callV [] rfl rfl ⟨rfl, rfl⟩ hu9 rfl rfl (e197 d hy6) ?_
    refine rn_steps 1 24 [.ref l0, .int l1, .retAddr 0, .retAddr 0, .retAddr 0] [.ref l0] rfl ?_
    obtain ⟨u8, hu8, h⟩ := Option.bind_eq_some_iff.mp h
    obtain ⟨y7, hy7, h⟩ := Option.bind_eq_some_iff.mp h
    refine rn_callV [] rfl rfl ⟨rfl, rfl⟩ hu8 rfl rfl (e218 (d + 2) hy7) ?_
    refine rn_steps 4 32 [.ref l0, .int l1, .long 0, .retAddr 1, .int 0] [] rfl ?_
    exact e223_32 d 1100 _ _ _ _ _ _ h
noncomputable def f224_64 (l0 : Nat) (l1 : Int32) (l2 : Int32) (s0 : Int32) (σ : xM) : Option xM :=
  (gR σ l0 9 17).bind fun r1 =>
  (aI σ r1 l2).bind fun v2 =>
  (tI σ r1 l2 (v2 - s0)).bind fun σ3 =>
  (gR σ3 l0 9 17).bind fun r4 =>
  (aI σ3 r4 l1).bind fun v5 =>
  (tI σ3 r4 l1 (v5 + s0)).bind fun σ6 =>
  some σ6
set_option maxRecDepth 20000 in
set_option maxHeartbeats 1000000 in
theorem e224_64 (d : Nat) (l0 : Nat) (l1 : Int32) (l2 : Int32) (s0 : Int32) (x3 : Value) (σ : xM) (y : xM) (h : f224_64 l0 l1 l2 s0 σ = some y) : Rn (d + 0) 224 64 [.ref l0, .int l1, .int l2, x3] [.int s0] σ (none, y) := by
  unfold f224_64 at h
  refine rn_steps 2 66 [.ref l0, .int l1, .int l2, .int s0] [.ref l0] rfl ?_
  obtain ⟨r1, hr1, h⟩ := Option.bind_eq_some_iff.mp h
  refine rn_gR (c := 9) (f := 17) rfl rfl ⟨⟨rfl, rfl⟩, rfl⟩ hr1 ?_
  refine rn_steps 2 71 [.ref l0, .int l1, .int l2, .int s0] [.int l2, .ref r1, .int l2, .ref r1] rfl ?_
  obtain ⟨v2, hv2, h⟩ := Option.bind_eq_some_iff.mp h
  refine rn_aI rfl hv2 ?_
  refine rn_steps 2 74 [.ref l0, .int l1, .int l2, .int s0] [.int (v2 - s0), .int l2, .ref r1] rfl ?_
  obtain ⟨σ3, hσ3, h⟩ := Option.bind_eq_some_iff.mp h
  refine rn_tI rfl hσ3 ?_
  refine rn_steps 1 76 [.ref l0, .int l1, .int l2, .int s0] [.ref l0] rfl ?_
  obtain ⟨r4, hr4, h⟩ := Option.bind_eq_some_iff.mp h
  refine rn_gR (c := 9) (f := 17) rfl rfl ⟨⟨rfl, rfl⟩, rfl⟩ hr4 ?_
  refine rn_steps 2 81 [.ref l0, .int l1, .int l2, .int s0] [.int l1, .ref r4, .int l1, .ref r4] rfl ?_
  obtain ⟨v5, hv5, h⟩ := Option.bind_eq_some_iff.mp h
  refine rn_aI rfl hv5 ?_
  refine rn_steps 2 84 [.ref l0, .int l1, .int l2, .int s0] [.int (v5 + s0), .int l1, .ref r4] rfl ?_
  obtain ⟨σ6, hσ6, h⟩ := Option.bind_eq_some_iff.mp h
  refine rn_tI rfl hσ6 ?_
  refine rn_steps 0 85 [.ref l0, .int l1, .int l2, .int s0] [] rfl ?_
  cases h
  exact rn_ret rfl rfl rfl
/-- LastAskedModel.asks(II)V -/
noncomputable def f224 (l0 : Nat) (l1 : Int32) (l2 : Int32) (σ : xM) : Option xM :=
  (gR σ l0 9 17).bind fun r1 =>
  (aI σ r1 44).bind fun v2 =>
  (tI σ r1 44 (v2 + 1)).bind fun σ3 =>
  (gR σ3 l0 9 17).bind fun r4 =>
  (gR σ3 l0 9 17).bind fun r5 =>
  (aI σ3 r5 44).bind fun v6 =>
  (tI σ3 r4 ((6 + (6 * l1)) + l2) v6).bind fun σ7 =>
  (gR σ7 l0 9 17).bind fun r8 =>
  (aI σ7 r8 l2).bind fun v9 =>
  (gR σ7 l0 9 3).bind fun r10 =>
  (gI σ7 r10 8 1).bind fun v11 =>
  if v11 ≤ v9 then
  (gR σ7 l0 9 3).bind fun r12 =>
  (gI σ7 r12 8 1).bind fun v13 =>
  f224_64 l0 l1 l2 v13 σ7
  else
  (gR σ7 l0 9 17).bind fun r14 =>
  (aI σ7 r14 l2).bind fun v15 =>
  f224_64 l0 l1 l2 v15 σ7
set_option maxRecDepth 20000 in
set_option maxHeartbeats 1000000 in
theorem e224 (d : Nat) {l0 : Nat} {l1 : Int32} {l2 : Int32} {σ : xM} {y : xM} (h : f224 l0 l1 l2 σ = some y) : Rn (d + 0) 224 0 [.ref l0, .int l1, .int l2, .retAddr 0] [] σ (none, y) := by
  unfold f224 at h
  refine rn_steps 1 1 [.ref l0, .int l1, .int l2, .retAddr 0] [.ref l0] rfl ?_
  obtain ⟨r1, hr1, h⟩ := Option.bind_eq_some_iff.mp h
  refine rn_gR (c := 9) (f := 17) rfl rfl ⟨⟨rfl, rfl⟩, rfl⟩ hr1 ?_
  refine rn_steps 2 7 [.ref l0, .int l1, .int l2, .retAddr 0] [.int 44, .ref r1, .int 44, .ref r1] rfl ?_
  obtain ⟨v2, hv2, h⟩ := Option.bind_eq_some_iff.mp h
  refine rn_aI rfl hv2 ?_
  refine rn_steps 2 10 [.ref l0, .int l1, .int l2, .retAddr 0] [.int (v2 + 1), .int 44, .ref r1] rfl ?_
  obtain ⟨σ3, hσ3, h⟩ := Option.bind_eq_some_iff.mp h
  refine rn_tI rfl hσ3 ?_
  refine rn_steps 1 12 [.ref l0, .int l1, .int l2, .retAddr 0] [.ref l0] rfl ?_
  obtain ⟨r4, hr4, h⟩ := Option.bind_eq_some_iff.mp h
  refine rn_gR (c := 9) (f := 17) rfl rfl ⟨⟨rfl, rfl⟩, rfl⟩ hr4 ?_
  refine rn_steps 8 25 [.ref l0, .int l1, .int l2, .retAddr 0] [.ref l0, .int ((6 + (6 * l1)) + l2), .ref r4] rfl ?_
  obtain ⟨r5, hr5, h⟩ := Option.bind_eq_some_iff.mp h
  refine rn_gR (c := 9) (f := 17) rfl rfl ⟨⟨rfl, rfl⟩, rfl⟩ hr5 ?_
  refine rn_steps 1 30 [.ref l0, .int l1, .int l2, .retAddr 0] [.int 44, .ref r5, .int ((6 + (6 * l1)) + l2), .ref r4] rfl ?_
  obtain ⟨v6, hv6, h⟩ := Option.bind_eq_some_iff.mp h
  refine rn_aI rfl hv6 ?_
  refine rn_steps 0 31 [.ref l0, .int l1, .int l2, .retAddr 0] [.int v6, .int ((6 + (6 * l1)) + l2), .ref r4] rfl ?_
  obtain ⟨σ7, hσ7, h⟩ := Option.bind_eq_some_iff.mp h
  refine rn_tI rfl hσ7 ?_
  refine rn_steps 1 33 [.ref l0, .int l1, .int l2, .retAddr 0] [.ref l0] rfl ?_
  obtain ⟨r8, hr8, h⟩ := Option.bind_eq_some_iff.mp h
  refine rn_gR (c := 9) (f := 17) rfl rfl ⟨⟨rfl, rfl⟩, rfl⟩ hr8 ?_
  refine rn_steps 1 37 [.ref l0, .int l1, .int l2, .retAddr 0] [.int l2, .ref r8] rfl ?_
  obtain ⟨v9, hv9, h⟩ := Option.bind_eq_some_iff.mp h
  refine rn_aI rfl hv9 ?_
  refine rn_steps 1 39 [.ref l0, .int l1, .int l2, .retAddr 0] [.ref l0, .int v9] rfl ?_
  obtain ⟨r10, hr10, h⟩ := Option.bind_eq_some_iff.mp h
  refine rn_gR (c := 9) (f := 3) rfl rfl ⟨⟨rfl, rfl⟩, rfl⟩ hr10 ?_
  refine rn_steps 0 42 [.ref l0, .int l1, .int l2, .retAddr 0] [.ref r10, .int v9] rfl ?_
  obtain ⟨v11, hv11, h⟩ := Option.bind_eq_some_iff.mp h
  refine rn_gI (c := 8) (f := 1) rfl rfl ⟨⟨rfl, rfl⟩, Or.inl rfl⟩ hv11 ?_
  refine rn_steps 0 45 [.ref l0, .int l1, .int l2, .retAddr 0] [.int v11, .int v9] rfl ?_
  refine rn_br (c := v11 ≤ v9) rfl rfl decide_eq_true_iff (fun hb => ?_) (fun hb => ?_)
  · rw [if_pos hb] at h
    refine rn_steps 1 58 [.ref l0, .int l1, .int l2, .retAddr 0] [.ref l0] rfl ?_
    obtain ⟨r12, hr12, h⟩ := Option.bind_eq_some_iff.mp h
    refine rn_gR (c := 9) (f := 3) rfl rfl ⟨⟨rfl, rfl⟩, rfl⟩ hr12 ?_
    refine rn_steps 0 61 [.ref l0, .int l1, .int l2, .retAddr 0] [.ref r12] rfl ?_
    obtain ⟨v13, hv13, h⟩ := Option.bind_eq_some_iff.mp h
    refine rn_gI (c := 8) (f := 1) rfl rfl ⟨⟨rfl, rfl⟩, Or.inl rfl⟩ hv13 ?_
    refine rn_steps 0 64 [.ref l0, .int l1, .int l2, .retAddr 0] [.int v13] rfl ?_
    exact e224_64 d _ _ _ _ _ _ _ h
  · rw [if_neg hb] at h
    refine rn_steps 1 49 [.ref l0, .int l1, .int l2, .retAddr 0] [.ref l0] rfl ?_
    obtain ⟨r14, hr14, h⟩ := Option.bind_eq_some_iff.mp h
    refine rn_gR (c := 9) (f := 17) rfl rfl ⟨⟨rfl, rfl⟩, rfl⟩ hr14 ?_
    refine rn_steps 1 53 [.ref l0, .int l1, .int l2, .retAddr 0] [.int l2, .ref r14] rfl ?_
    obtain ⟨v15, hv15, h⟩ := Option.bind_eq_some_iff.mp h
    refine rn_aI rfl hv15 ?_
    refine rn_steps 1 64 [.ref l0, .int l1, .int l2, .retAddr 0] [.int v15] rfl ?_
    exact e224_64 d _ _ _ _ _ _ _ h
