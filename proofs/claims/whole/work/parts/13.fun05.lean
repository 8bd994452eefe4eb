noncomputable def f216_144 (l0 : Nat) (l3 : Int32) (σ : xM) : Option (Int32 × xM) :=
  (cO σ l0 9).bind fun u2 =>
  (f154 l0 l3 σ).bind fun y1 =>
  some (y1.1, y1.2)
set_option maxRecDepth 20000 in
set_option maxHeartbeats 1000000 in
theorem e216_144 (d : Nat) (l0 : Nat) (l3 : Int32) (x1 x2 x4 : Value) (σ : xM) (y : Int32 × xM) (h : f216_144 l0 l3 σ = some y) : Rn (d + 5) 216 144 [.ref l0, x1, x2, .int l3, x4] [] σ (some (.int y.1), y.2) := by
  unfold f216_144 at h
  refine rn_steps 2 146 [.ref l0, x1, x2, .int l3, x4] [.int l3, .ref l0] rfl ?_
  obtain ⟨u2, hu2, h⟩ := Option.bind_eq_some_iff.mp h
  obtain ⟨y1, hy1, h⟩ := Option.bind_eq_some_iff.mp h
  refine rn_callV [.int l3] rfl rfl ⟨rfl, rfl⟩ hu2 rfl rfl (e154 (d + 4) hy1) ?_
  refine rn_steps 0 149 [.ref l0, x1, x2, .int l3, x4] [.int y1.1] rfl ?_
  cases h
  exact rn_ret rfl rfl rfl
noncomputable def f216_138 (K58 : Nat → Int32 → Int32 → Int32 → Int32 → xM → Option (Int32 × xM)) (l0 : Nat) (l1 : Int32) (l2 : Int32) (l3 : Int32) (l4 : Int32) (σ : xM) : Option (Int32 × xM) :=
  K58 l0 l1 l2 l3 (l4 + 1) σ
set_option maxRecDepth 20000 in
set_option maxHeartbeats 1000000 in
theorem e216_138 (d : Nat) (K58 : Nat → Int32 → Int32 → Int32 → Int32 → xM → Option (Int32 × xM)) (hK58 : ∀ (l0 : Nat) (l1 : Int32) (l2 : Int32) (l3 : Int32) (l4 : Int32) (σ : xM) (y : Int32 × xM), K58 l0 l1 l2 l3 l4 σ = some y → Rn (d + 5) 216 58 [.ref l0, .int l1, .int l2, .int l3, .int l4] [] σ (some (.int y.1), y.2)) (l0 : Nat) (l1 : Int32) (l2 : Int32) (l3 : Int32) (l4 : Int32) (σ : xM) (y : Int32 × xM) (h : f216_138 K58 l0 l1 l2 l3 l4 σ = some y) : Rn (d + 5) 216 138 [.ref l0, .int l1, .int l2, .int l3, .int l4] [] σ (some (.int y.1), y.2) := by
  unfold f216_138 at h
  refine rn_steps 2 58 [.ref l0, .int l1, .int l2, .int l3, .int (l4 + 1)] [] rfl ?_
  exact hK58 _ _ _ _ _ _ _ h
noncomputable def f216_124 (K58 : Nat → Int32 → Int32 → Int32 → Int32 → xM → Option (Int32 × xM)) (l0 : Nat) (l1 : Int32) (l2 : Int32) (l3 : Int32) (l4 : Int32) (σ : xM) : Option (Int32 × xM) :=
  (cO σ l0 9).bind fun u2 =>
  (f194 l0 l1 l4 σ).bind fun y1 =>
  if y1.1 = l2 then
  f216_138 K58 l0 l1 l2 l4 l4 y1.2
  else
  f216_138 K58 l0 l1 l2 l3 l4 y1.2
set_option maxRecDepth 20000 in
set_option maxHeartbeats 1000000 in
theorem e216_124 (d : Nat) (K58 : Nat → Int32 → Int32 → Int32 → Int32 → xM → Option (Int32 × xM)) (hK58 : ∀ (l0 : Nat) (l1 : Int32) (l2 : Int32) (l3 : Int32) (l4 : Int32) (σ : xM) (y : Int32 × xM), K58 l0 l1 l2 l3 l4 σ = some y → Rn (d + 5) 216 58 [.ref l0, .int l1, .int l2, .int l3, .int l4] [] σ (some (.int y.1), y.2)) (l0 : Nat) (l1 : Int32) (l2 : Int32) (l3 : Int32) (l4 : Int32) (σ : xM) (y : Int32 × xM) (h : f216_124 K58 l0 l1 l2 l3 l4 σ = some y) : Rn (d + 5) 216 124 [.ref l0, .int l1, .int l2, .int l3, .int l4] [] σ (some (.int y.1), y.2) := by
  unfold f216_124 at h
  refine rn_steps 3 128 [.ref l0, .int l1, .int l2, .int l3, .int l4] [.int l4, .int l1, .ref l0] rfl ?_
  obtain ⟨u2, hu2, h⟩ := Option.bind_eq_some_iff.mp h
  obtain ⟨y1, hy1, h⟩ := Option.bind_eq_some_iff.mp h
  refine rn_callV [.int l1, .int l4] rfl rfl ⟨rfl, rfl⟩ hu2 rfl rfl (e194 (d + 3) hy1) ?_
  refine rn_steps 1 132 [.ref l0, .int l1, .int l2, .int l3, .int l4] [.int l2, .int y1.1] rfl ?_
  refine rn_br (c := ¬ y1.1 = l2) rfl rfl decide_eq_true_iff (fun hb => ?_) (fun hb => ?_)
  · rw [if_neg hb] at h
    refine rn_steps 0 138 [.ref l0, .int l1, .int l2, .int l3, .int l4] [] rfl ?_
    exact e216_138 d _ hK58 _ _ _ _ _ _ _ h
  · rw [if_pos (Decidable.not_not.mp hb)] at h
    refine rn_steps 2 138 [.ref l0, .int l1, .int l2, .int l4, .int l4] [] rfl ?_
    exact e216_138 d _ hK58 _ _ _ _ _ _ _ h
noncomputable def f216_58 : Nat → Nat → Int32 → Int32 → Int32 → Int32 → xM → Option (Int32 × xM)
  | 0, _, _, _, _, _, _ => none
  | n + 1, l0, l1, l2, l3, l4, σ =>
    (gR σ l0 9 16).bind fun r1 =>
    (aI σ r1 42).bind fun v2 =>
    if v2 < l4 then
    f216_144 l0 l3 σ
    else
    (gR σ l0 9 16).bind fun r3 =>
    (aI σ r3 42).bind fun v4 =>
    if (l4 &&& (v4 ^^^ (-1))) = 0 then
    (f157 l4 l1 σ).bind fun y5 =>
    if y5.1 = 0 then
    f216_138 (f216_58 n) l0 l1 l2 l3 l4 y5.2
    else
    (f157 l4 l2 y5.2).bind fun y6 =>
    if y6.1 = 0 then
    if l3 = (-2) then
    f216_124 (f216_58 n) l0 l1 l2 l3 l4 y6.2
    else
    (f158 l4 y6.2).bind fun y7 =>
    (f158 l3 y7.2).bind fun y8 =>
    if y7.1 < y8.1 then
    f216_124 (f216_58 n) l0 l1 l2 l3 l4 y8.2
    else
    f216_138 (f216_58 n) l0 l1 l2 l3 l4 y8.2
    else
    f216_138 (f216_58 n) l0 l1 l2 l3 l4 y6.2
    else
    f216_138 (f216_58 n) l0 l1 l2 l3 l4 σ
set_option maxRecDepth 20000 in
set_option maxHeartbeats 1000000 in
theorem e216_58 (d : Nat) : ∀ (n : Nat) (l0 : Nat) (l1 : Int32) (l2 : Int32) (l3 : Int32) (l4 : Int32) (σ : xM) (y : Int32 × xM), f216_58 n l0 l1 l2 l3 l4 σ = some y → Rn (d + 5) 216 58 [.ref l0, .int l1, .int l2, .int l3, .int l4] [] σ (some (.int y.1), y.2) := by
  intro n
  induction n with
  | zero => intro l0 l1 l2 l3 l4 σ y h; cases h
  | succ n ih =>
    intro l0 l1 l2 l3 l4 σ y h
    unfold f216_58 at h
    refine rn_steps 2 61 [.ref l0, .int l1, .int l2, .int l3, .int l4] [.ref l0, .int l4] rfl ?_
    obtain ⟨r1, hr1, h⟩ := Option.bind_eq_some_iff.mp h
    refine rn_gR (c := 9) (f := 16) rfl rfl ⟨⟨rfl, rfl⟩, rfl⟩ hr1 ?_
    refine rn_steps 1 66 [.ref l0, .int l1, .int l2, .int l3, .int l4] [.int 42, .ref r1, .int l4] rfl ?_
    obtain ⟨v2, hv2, h⟩ := Option.bind_eq_some_iff.mp h
    refine rn_aI rfl hv2 ?_
    refine rn_steps 0 67 [.ref l0, .int l1, .int l2, .int l3, .int l4] [.int v2, .int l4] rfl ?_
    refine rn_br (c := v2 < l4) rfl rfl decide_eq_true_iff (fun hb => ?_) (fun hb => ?_)
    · rw [if_pos hb] at h
      refine rn_steps 0 144 [.ref l0, .int l1, .int l2, .int l3, .int l4] [] rfl ?_
      exact e216_144 d _ _ _ _ _ _ _ h
    · rw [if_neg hb] at h
      refine rn_steps 2 73 [.ref l0, .int l1, .int l2, .int l3, .int l4] [.ref l0, .int l4] rfl ?_
      obtain ⟨r3, hr3, h⟩ := Option.bind_eq_some_iff.mp h
      refine rn_gR (c := 9) (f := 16) rfl rfl ⟨⟨rfl, rfl⟩, rfl⟩ hr3 ?_
      refine rn_steps 1 78 [.ref l0, .int l1, .int l2, .int l3, .int l4] [.int 42, .ref r3, .int l4] rfl ?_
      obtain ⟨v4, hv4, h⟩ := Option.bind_eq_some_iff.mp h
      refine rn_aI rfl hv4 ?_
      refine rn_steps 3 82 [.ref l0, .int l1, .int l2, .int l3, .int l4] [.int (l4 &&& (v4 ^^^ (-1)))] rfl ?_
      refine rn_br (c := ¬ (l4 &&& (v4 ^^^ (-1))) = 0) rfl rfl decide_eq_true_iff (fun hb => ?_) (fun hb => ?_)
      · rw [if_neg hb] at h
        refine rn_steps 0 138 [.ref l0, .int l1, .int l2, .int l3, .int l4] [] rfl ?_
        exact e216_138 d _ ih _ _ _ _ _ _ _ h
      · rw [if_pos (Decidable.not_not.mp hb)] at h
        refine rn_steps 2 88 [.ref l0, .int l1, .int l2, .int l3, .int l4] [.int l1, .int l4] rfl ?_
        obtain ⟨y5, hy5, h⟩ := Option.bind_eq_some_iff.mp h
        refine rn_callS [.int l4, .int l1] rfl rfl rfl ⟨rfl, rfl, rfl⟩ rfl rfl (e157 (d + 4) hy5) ?_
        refine rn_steps 0 91 [.ref l0, .int l1, .int l2, .int l3, .int l4] [.int y5.1] rfl ?_
        refine rn_br (c := y5.1 = 0) rfl rfl decide_eq_true_iff (fun hb => ?_) (fun hb => ?_)
        · rw [if_pos hb] at h
          refine rn_steps 0 138 [.ref l0, .int l1, .int l2, .int l3, .int l4] [] rfl ?_
          exact e216_138 d _ ih _ _ _ _ _ _ _ h
        · rw [if_neg hb] at h
          refine rn_steps 2 97 [.ref l0, .int l1, .int l2, .int l3, .int l4] [.int l2, .int l4] rfl ?_
          obtain ⟨y6, hy6, h⟩ := Option.bind_eq_some_iff.mp h
          refine rn_callS [.int l4, .int l2] rfl rfl rfl ⟨rfl, rfl, rfl⟩ rfl rfl (e157 (d + 4) hy6) ?_
          refine rn_steps 0 100 [.ref l0, .int l1, .int l2, .int l3, .int l4] [.int y6.1] rfl ?_
          refine rn_br (c := ¬ y6.1 = 0) rfl rfl decide_eq_true_iff (fun hb => ?_) (fun hb => ?_)
          · rw [if_neg hb] at h
            refine rn_steps 0 138 [.ref l0, .int l1, .int l2, .int l3, .int l4] [] rfl ?_
            exact e216_138 d _ ih _ _ _ _ _ _ _ h
          · rw [if_pos (Decidable.not_not.mp hb)] at h
            refine rn_steps 2 106 [.ref l0, .int l1, .int l2, .int l3, .int l4] [.int (-2), .int l3] rfl ?_
            refine rn_br (c := l3 = (-2)) rfl rfl decide_eq_true_iff (fun hb => ?_) (fun hb => ?_)
            · rw [if_pos hb] at h
              refine rn_steps 0 124 [.ref l0, .int l1, .int l2, .int l3, .int l4] [] rfl ?_
              exact e216_124 d _ ih _ _ _ _ _ _ _ h
            · rw [if_neg hb] at h
              refine rn_steps 1 111 [.ref l0, .int l1, .int l2, .int l3, .int l4] [.int l4] rfl ?_
              obtain ⟨y7, hy7, h⟩ := Option.bind_eq_some_iff.mp h
              refine rn_callS [.int l4] rfl rfl rfl ⟨rfl, rfl, rfl⟩ rfl rfl (e158 (d + 4) hy7) ?_
              refine rn_steps 1 115 [.ref l0, .int l1, .int l2, .int l3, .int l4] [.int l3, .int y7.1] rfl ?_
              obtain ⟨y8, hy8, h⟩ := Option.bind_eq_some_iff.mp h
              refine rn_callS [.int l3] rfl rfl rfl ⟨rfl, rfl, rfl⟩ rfl rfl (e158 (d + 4) hy8) ?_
              refine rn_steps 0 118 [.ref l0, .int l1, .int l2, .int l3, .int l4] [.int y8.1, .int y7.1] rfl ?_
              refine rn_br (c := y7.1 < y8.1) rfl rfl decide_eq_true_iff (fun hb => ?_) (fun hb => ?_)
              · rw [if_pos hb] at h
                refine rn_steps 0 124 [.ref l0, .int l1, .int l2, .int l3, .int l4] [] rfl ?_
                exact e216_124 d _ ih _ _ _ _ _ _ _ h
              · rw [if_neg hb] at h
                refine rn_steps 1 138 [.ref l0, .int l1, .int l2, .int l3, .int l4] [] rfl ?_
                exact e216_138 d _ ih _ _ _ _ _ _ _ h
noncomputable def f216_42 (l0 : Nat) (σ : xM) : Option (Int32 × xM) :=
  (cO σ l0 9).bind fun u2 =>
  (f151 l0 1 σ).bind fun y1 =>
  some (y1.1, y1.2)
set_option maxRecDepth 20000 in
set_option maxHeartbeats 1000000 in
theorem e216_42 (d : Nat) (l0 : Nat) (x1 x2 x3 x4 : Value) (σ : xM) (y : Int32 × xM) (h : f216_42 l0 σ = some y) : Rn (d + 5) 216 42 [.ref l0, x1, x2, x3, x4] [] σ (some (.int y.1), y.2) := by
  unfold f216_42 at h
  refine rn_steps 2 44 [.ref l0, x1, x2, x3, x4] [.int 1, .ref l0] rfl ?_
  obtain ⟨u2, hu2, h⟩ := Option.bind_eq_some_iff.mp h
  obtain ⟨y1, hy1, h⟩ := Option.bind_eq_some_iff.mp h
  refine rn_callV [.int 1] rfl rfl ⟨rfl, rfl⟩ hu2 rfl rfl (e151 (d + 4) hy1) ?_
  refine rn_steps 0 47 [.ref l0, x1, x2, x3, x4] [.int y1.1] rfl ?_
  cases h
  exact rn_ret rfl rfl rfl
/-- LastAskedModel.plot(II)I -/
noncomputable def f216 (l0 : Nat) (l1 : Int32) (l2 : Int32) (σ : xM) : Option (Int32 × xM) :=
  (pI σ l0 9 0 0).bind fun σ1 =>
  (cO σ1 l0 9).bind fun u11 =>
  (f187 l0 l1 l2 σ1).bind fun y2 =>
  if y2.1 = 0 then
  f216_42 l0 y2.2
  else
  (gR y2.2 l0 9 16).bind fun r3 =>
  (aI y2.2 r3 42).bind fun v4 =>
  (f157 v4 l1 y2.2).bind fun y5 =>
  if y5.1 = 0 then
  f216_42 l0 y5.2
  else
  (gR y5.2 l0 9 16).bind fun r6 =>
  (aI y5.2 r6 42).bind fun v7 =>
  (f157 v7 l2 y5.2).bind fun y8 =>
  if y8.1 = 0 then
  f216_42 l0 y8.2
  else
  (cO y8.2 l0 9).bind fun u10 =>
  (f197 l0 y8.2).bind fun y9 =>
  f216_58 1100 l0 l1 l2 (-2) 0 y9
set_option maxRecDepth 20000 in
set_option maxHeartbeats 1000000 in
theorem e216 (d : Nat) {l0 : Nat} {l1 : Int32} {l2 : Int32} {σ : xM} {y : Int32 × xM} (h : f216 l0 l1 l2 σ = some y) : Rn (d + 5) 216 0 [.ref l0, .int l1, .int l2, .retAddr 0, .retAddr 0] [] σ (some (.int y.1), y.2) := by
  unfold f216 at h
  refine rn_steps 2 2 [.ref l0, .int l1, .int l2, .retAddr 0, .retAddr 0] [.int 0, .ref l0] rfl ?_
  obtain ⟨σ1, hσ1, h⟩ := Option.bind_eq_some_iff.mp h
  refine rn_pI (c := 9) (f := 0) rfl rfl ⟨⟨rfl, rfl⟩, rfl⟩ hσ1 ?_
  refine rn_steps 3 8 [.ref l0, .int l1, .int l2, .retAddr 0, .retAddr 0] [.int l2, .int l1, .ref l0] rfl ?_
  obtain ⟨u11, hu11, h⟩ := Option.bind_eq_some_iff.mp h
  obtain ⟨y2, hy2, h⟩ := Option.bind_eq_some_iff.mp h
  refine rn_callV [.int l1, .int l2] rfl rfl ⟨rfl, rfl⟩ hu11 rfl rfl (e187 (d + 3) hy2) ?_
  refine rn_steps 0 11 [.ref l0, .int l1, .int l2, .retAddr 0, .retAddr 0] [.int y2.1] rfl ?_
  refine rn_br (c := y2.1 = 0) rfl rfl decide_eq_true_iff (fun hb => ?_) (fun hb => ?_)
  · rw [if_pos hb] at h
    refine rn_steps 0 42 [.ref l0, .int l1, .int l2, .retAddr 0, .retAddr 0] [] rfl ?_
    exact e216_42 d _ _ _ _ _ _ _ h
  · rw [if_neg hb] at h
    refine rn_steps 1 15 [.ref l0, .int l1, .int l2, .retAddr 0, .retAddr 0] [.ref l0] rfl ?_
    obtain ⟨r3, hr3, h⟩ := Option.bind_eq_some_iff.mp h
    refine rn_gR (c := 9) (f := 16) rfl rfl ⟨⟨rfl, rfl⟩, rfl⟩ hr3 ?_
    refine rn_steps 1 20 [.ref l0, .int l1, .int l2, .retAddr 0, .retAddr 0] [.int 42, .ref r3] rfl ?_
    obtain ⟨v4, hv4, h⟩ := Option.bind_eq_some_iff.mp h
    refine rn_aI rfl hv4 ?_
    refine rn_steps 1 22 [.ref l0, .int l1, .int l2, .retAddr 0, .retAddr 0] [.int l1, .int v4] rfl ?_
    obtain ⟨y5, hy5, h⟩ := Option.bind_eq_some_iff.mp h
    refine rn_callS [.int v4, .int l1] rfl rfl rfl ⟨rfl, rfl, rfl⟩ rfl rfl (e157 (d + 4) hy5) ?_
    refine rn_steps 0 25 [.ref l0, .int l1, .int l2, .retAddr 0, .retAddr 0] [.int y5.1] rfl ?_
    refine rn_br (c := y5.1 = 0) rfl rfl decide_eq_true_iff (fun hb => ?_) (fun hb => ?_)
    · rw [if_pos hb] at h
      refine rn_steps 0 42 [.ref l0, .int l1, .int l2, .retAddr 0, .retAddr 0] [] rfl ?_
      exact e216_42 d _ _ _ _ _ _ _ h
    · rw [if_neg hb] at h
      refine rn_steps 1 29 [.ref l0, .int l1, .int l2, .retAddr 0, .retAddr 0] [.ref l0] rfl ?_
      obtain ⟨r6, hr6, h⟩ := Option.bind_eq_some_iff.mp h
      refine rn_gR (c := 9) (f := 16) rfl rfl ⟨⟨rfl, rfl⟩, rfl⟩ hr6 ?_
      refine rn_steps 1 34 [.ref l0, .int l1, .int l2, .retAddr 0, .retAddr 0] [.int 42, .ref r6] rfl ?_
      obtain ⟨v7, hv7, h⟩ := Option.bind_eq_some_iff.mp h
      refine rn_aI rfl hv7 ?_
      refine rn_steps 1 36 [.ref l0, .int l1, .int l2, .retAddr 0, .retAddr 0] [.int l2, .int v7] rfl ?_
      obtain ⟨y8, hy8, h⟩ := Option.bind_eq_some_iff.mp h
      refine rn_callS [.int v7, .int l2] rfl rfl rfl ⟨rfl, rfl, rfl⟩ rfl rfl (e157 (d + 4) hy8) ?_
      refine rn_steps 0 39 [.ref l0, .int l1, .int l2, .retAddr 0, .retAddr 0] [.int y8.1] rfl ?_
      refine rn_br (c := ¬ y8.1 = 0) rfl rfl decide_eq_true_iff (fun hb => ?_) (fun hb => ?_)
      · rw [if_neg hb] at h
        refine rn_steps 1 49 [.ref l0, .int l1, .int l2, .retAddr 0, .retAddr 0] [.ref l0] rfl ?_
        obtain ⟨u10, hu10, h⟩ := Option.bind_eq_some_iff.mp h
        obtain ⟨y9, hy9, h⟩ := Option.bind_eq_some_iff.mp h
        refine rn_callV [] rfl rfl ⟨rfl, rfl⟩ hu10 rfl rfl (e197 d hy9) ?_
        refine rn_steps 4 58 [.ref l0, .int l1, .int l2, .int (-2), .int 0] [] rfl ?_
        exact e216_58 d 1100 _ _ _ _ _ _ _ h
      · rw [if_pos (Decidable.not_not.mp hb)] at h
        refine rn_steps 0 42 [.ref l0, .int l1, .int l2, .retAddr 0, .retAddr 0] [] rfl ?_
        exact e216_42 d _ _ _ _ _ _ _ h
