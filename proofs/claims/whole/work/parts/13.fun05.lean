def f216_144 (l0 : Nat) (l3 : Int32) (σ : xM) : Option (Int32 × xM) :=
  (cO σ l0 9).bind fun u2 =>
  (f154 l0 l3 σ).bind fun y1 =>
  some (y1.1, y1.2)
set_option maxRecDepth 20000 in
set_option maxHeartbeats 1000000 in
theorem e216_144 (d : Nat) (l0 : Nat) (l3 : Int32) (x1 x2 x4 : Value) (σ : xM) (y : Int32 × xM) (h : f216_144 l0 l3 σ = some y) : Rn (d + 5) 216 144 [.ref l0, x1, x2, .int l3, x4] [] σ (some (.int y.1), y.2) := by
  unfold f216_144 at h
  refine rn_steps 2 146 [.ref l0, x1, x2, .int l3, x4] [.int l3, .ref l0] rfl ?_
  obtain ⟨u2, hu2, h⟩ := Option.bind_eq_some_iff.mp h
  obtain ⟨y1, hy1, h⟩ := Option.bind_eq_some_iff.mp h
  refine rn_callV [.int l3] rfl rfl ⟨rfl, rfl⟩ hu2 rfl rfl (e154 (d + 4) hy1) ?_
  refine rn_steps 0 149 [.ref l0, x1, x2, .int l3, x4] [.int y1.1] rfl ?_
  cases h
  exact rn_ret rfl rfl rfl
def f216_138 (K58 : Nat → Int32 → Int32 → Int32 → Int32 → xM → Option (Int32 × xM)) (l0 : Nat) (l1 : Int32) (l2 : Int32) (l3 : Int32) (l4 : Int32) (σ : xM) : Option (Int32 × xM) :=
  K58 l0 l1 l2 l3 (l4 + 1) σ
set_option maxRecDepth 20000 in
set_option maxHeartbeats 1000000 in
theorem e216_138 (d : Nat) (K58 : Nat → Int32 → Int32 → Int32 → Int32 → xM → Option (Int32 × xM)) (hK58 : ∀ (l0 : Nat) (l1 : Int32) (l2 : Int32) (l3 : Int32) (l4 : Int32) (σ : xM) (y : Int32 × xM), K58 l0 l1 l2 l3 l4 σ = some y → Rn (d + 5) 216 58 [.ref l0, .int l1, .int l2, .int l3, .int l4] [] σ (some (.int y.1), y.2)) (l0 : Nat) (l1 : Int32) (l2 : Int32) (l3 : Int32) (l4 : Int32) (σ : xM) (y : Int32 × xM) (h : f216_138 K58 l0 l1 l2 l3 l4 σ = some y) : Rn (d + 5) 216 138 [.ref l0, .int l1, .int l2, .int l3, .int l4] [] σ (some (.int y.1), y.2) := by
  unfold f216_138 at h
  refine rn_steps 2 58 [.ref l0, .int l1, .int l2, .int l3, .int (l4 + 1)] [] rfl ?_
  exact hK58 _ _ _ _ _ _ _ h
def f216_124 (K58 : Nat → Int32 → Int32 → Int32 → Int32 → xM → Option (Int32 × xM)) (l0 : Nat) (l1 : Int32) (l2 : Int32) (l3 : Int32) (l4 : Int32) (σ : xM) : Option (Int32 × xM) :=
  (cO σ l0 9).bind fun u2 =>
  (f194 l0 l1 l4 σ).bind fun y1 =>
  if y1.1 = l2 then
  f216_138 K58 l0 l1 l2 l4 l4 y1.2
  else
  f216_138 K58 l0 l1 l2 l3 l4 y1.2
set_option maxRecDepth 20000 in
set_option maxHeartbeats 1000000 in
theorem e216_124 (d : Nat) (K58 : Nat → Int32 → Int32 → Int32 → Int32 → xM → Option (Int32 × xM)) (hK58 : ∀ (l0 : Nat) (l1 : Int32) (l2 : Int32) (l3 : Int32) (l4 : Int32) (σ : xM) (y : Int32 × xM), K58 l0 l1 l2 l3 l4 σ = some y → Rn (d + 5) 216 58 [.ref l0, .int l1, .int l2, .int l3, .int l4] [] σ (some (.int y.1), y.2)) (l0 : Nat) (l1 : Int32) (l2 : Int32) (l3 : Int32) (l4 : Int32) (σ : xM) (y : Int32 × xM) (h : f216_124 K58 l0 l1 l2 l3 l4 σ = some y) : Rn (d + 5) 216 124 [.ref l0, .int l1, .int l2, .int l3, .int l4] [] σ (some (.int y.1), y.2) := by
  unfold f216_124 at h
  refine rn_steps 3 128 [.ref l0, .int l1, .int l2, .int l3, .int l4] [.int l4, .int l1, .ref l0] rfl ?_
  obtain ⟨u2, hu2, h⟩ := Option.bind_eq_some_iff.mp h
  obtain ⟨y1, hy1, h⟩ := Option.bind_eq_some_iff.mp h
  refine rn_callV [.int l1, .int l4] rfl rfl ⟨rfl, rfl⟩ hu2 rfl rfl (e194 (d + 3) hy1) ?_
  refine rn_steps 1 132 [.ref l0, .int l1, .int l2, .int l3, .int l4] [.int l2, .int y1.1] rfl ?_
  refine rn_br (c := ¬ y1.1 = l2) rfl rfl decide_eq_true_iff (fun hb => ?_) (fun hb => ?_)
  · rw [if_neg hb] at h
    refine rn_steps 0 138 [.ref l0, .int l1, .int l2, .int l3, .int l4] [] rfl ?_
    exact e216_138 d _ hK58 _ _ _ _ _ _ _ h
  · rw [if_pos (Decidable.not_not.mp hb)] at h
    refine rn_steps 2 138 [.ref l0, .int l1, .int l2, .int l4, .int l4] [] rfl ?_
    exact e216_138 d _ hK58 _ _ _ _ _ _ _ h
def f216_58 : Nat → Nat → Int32 → Int32 → Int32 → Int32 → xM → Option (Int32 × xM)
  | 0, _, _, _, _, _, _ => none
  | n + 1, l0, l1, l2, l3, l4, σ =>
    (gR σ l0 9 16).bind fun r1 =>
    (aI σ r1 42).bind fun v2 =>
    if v2 < l4 then
    f216_144 l0 l3 σ
    else
    (gR σ l0 9 16).bind fun r3 =>
    (aI σ r3 42).bind fun v4 =>
    if (l4 &&& (v4 ^^^ (-1))) = 0 then
    (f157 l4 l1 σ).bind fun y5 =>
    if y5.1 = 0 then
    f216_138 (f216_58 n) l0 l1 l2 l3 l4 y5.2
    else
    (f157 l4 l2 y5.2).bind fun y6 =>
    if y6.1 = 0 then
    if l3 = (-2) then
    f216_124 (f216_58 n) l0 l1 l2 l3 l4 y6.2
    else
    (f158 l4 y6.2).bind fun y7 =>
    (f158 l3 y7.2).bind fun y8 =>
    if y7.1 < y8.1 then
    f216_124 (f216_58 n) l0 l1 l2 l3 l4 y8.2
    else
    f216_138 (f216_58 n) l0 l1 l2 l3 l4 y8.2
    else
    f216_138 (f216_58 n) l0 l1 l2 l3 l4 y6.2
    else
    f216_138 (f216_58 n) l0 l1 l2 l3 l4 σ
set_option maxRecDepth 20000 in
set_option maxHeartbeats 1000000 in
theorem e216_58 (d : Nat) : ∀ (n : Nat) (l0 : Nat) (l1 : Int32) (l2 : Int32) (l3 : Int32) (l4 : Int32) (σ : xM) (y : Int32 × xM), f216_58 n l0 l1 l2 l3 l4 σ = some y → Rn (d + 5) 216 58 [.ref l0, .int l1, .int l2, .int l3, .int l4] [] σ (some (.int y.1), y.2) := by
  intro n
  induction n with
  | zero => intro l0 l1 l2 l3 l4 σ y h; cases h
  | succ n ih =>
    intro l0 l1 l2 l3 l4 σ y h
    unfold f216_58 at h
    refine rn_steps 2 61 [.ref l0, .int l1, .int l2, .int l3, .int l4] [.ref l0, .int l4] rfl ?_
    obtain ⟨r1, hr1, h⟩ := Option.bind_eq_some_iff.mp h
    refine rn_gR (c := 9) (f := 16) rfl rfl ⟨⟨rfl, rfl⟩, rfl⟩ hr1 ?_
    refine rn_steps 1 66 [.ref l0, .int l1, .int l2, .int l3, .int l4] [.int 42, .ref r1, .int l4] rfl ?_
    obtain ⟨v2, hv2, h⟩ := Option.bind_eq_some_iff.mp h
    refine rn_aI rfl hv2 ?_
    refine rn_steps 0 67 [.ref l0, .int l1, .int l2, .int l3, .int l4] [.int v2, .int l4] rfl ?_
    refine rn_br (c := v2 < l4) rfl rfl decide_eq_true_iff (fun hb => ?_) (fun hb => ?_)
    · rw [if_pos hb] at h
      refine rn_steps 0 144 [.ref l0, .int l1, .int l2, .int l3, .int l4] [] rfl ?_
      exact e216_144 d _ _ _ _ _ _ _ h
    · rw [if_neg hb] at h
      refine rn_steps 2 73 [.ref l0, .int l1, .int l2, .int l3, .int l4] [.ref l0, .int l4] rfl ?_
      obtain ⟨r3, hr3, h⟩ := Option.bind_eq_some_iff.mp h
      refine rn_gR (c := 9) (f := 16) rfl rfl ⟨⟨rfl, rfl⟩, rfl⟩ hr3 ?_
      refine rn_steps 1 78 [.ref l0, .int l1, .int l2, .int l3, .int l4] [.int 42, .ref r3, .int l4] rfl ?_
      obtain ⟨v4, hv4, h⟩ := Option.bind_eq_some_iff.mp h
      refine rn_aI rfl hv4 ?_
      refine rn_steps 3 82 [.ref l0, .int l1, .int l2, .int l3, .int l4] [.int (l4 &&& (v4 ^^^ (-1)))] rfl ?_
      refine rn_br (c := ¬ (l4 &&& (v4 ^^^ (-1))) = 0) rfl rfl decide_eq_true_iff (fun hb => ?_) (fun hb => ?_)
      · rw [if_neg hb] at h
        refine rn_steps 0 138 [.ref l0, .int l1, .int l2, .int l3, .int l4] [] rfl ?_
        exact e216_138 d _ ih _ _ _ _ _ _ _ h
      · rw [if_pos (Decidable.not_not.mp hb)] at h
        refine rn_steps 2 88 [.ref l0, .int l1, .int l2, .int l3, .int l4] [.int l1, .int l4] rfl ?_
        obtain ⟨y5, hy5, h⟩ := Option.bind_eq_some_iff.mp h
        refine rn_callS [.int l4, .int l1] rfl rfl rfl ⟨rfl, rfl, rfl⟩ rfl rfl (e157 (d + 4) hy5) ?_
        refine rn_steps 0 91 [.ref l0, .int l1, .int l2, .int l3, .int l4] [.int y5.1] rfl ?_
        refine rn_br (c := y5.1 = 0) rfl rfl decide_eq_true_iff (fun hb => ?_) (fun hb => ?_)
        · rw [if_pos hb] at h
          refine rn_steps 0 138 [.ref l0, .int l1, .int l2, .int l3, .int l4] [] rfl ?_
          exact e216_138 d _ ih _ _ _ _ _ _ _ h
        · rw [if_neg hb] at h
          refine rn_steps 2 97 [.ref l0, .int l1, .int l2, .int l3, .int l4] [.int l2, .int l4] rfl ?_
          obtain ⟨y6, hy6, h⟩ := Option.bind_eq_some_iff.mp h
          refine rn_callS [.int l4, .int l2] rfl rfl rfl ⟨rfl, rfl, rfl⟩ rfl rfl (e157 (d + 4) hy6) ?_
          refine rn_steps 0 100 [.ref l0, .int l1, .int l2, .int l3, .int l4] [.int y6.1] rfl ?_
          refine rn_br (c := ¬ y6.1 = 0) rfl rfl decide_eq_true_iff (fun hb => ?_) (fun hb => ?_)
          · rw [if_neg hb] at h
            refine rn_steps 0 138 [.ref l0, .int l1, .int l2, .int l3, .int l4] [] rfl ?_
            exact e216_138 d _ ih _ _ _ _ _ _ _ h
          · rw [if_pos (Decidable.not_not.mp hb)] at h
            refine rn_steps 2 106 [.ref l0, .int l1, .int l2, .int l3, .int l4] [.int (-2), .int l3] rfl ?_
            refine rn_br (c := l3 = (-2)) rfl rfl decide_eq_true_iff (fun hb => ?_) (fun hb => ?_)
            · rw [if_pos hb] at h
              refine rn_steps 0 124 [.ref l0, .int l1, .int l2, .int l3, .int l4] [] rfl ?_
              exact e216_124 d _ ih _ _ _ _ _ _ _ h
            · rw [if_neg hb] at h
              refine rn_steps 1 111 [.ref l0, .int l1, .int l2, .int l3, .int l4] [.int l4] rfl ?_
              obtain ⟨y7, hy7, h⟩ := Option.bind_eq_some_iff.mp h
              refine rn_callS [.int l4] rfl rfl rfl ⟨rfl, rfl, rfl⟩ rfl rfl (e158 (d + 4) hy7) ?_
              refine rn_steps 1 115 [.ref l0, .int l1, .int l2, .int l3, .int l4] [.int l3, .int y7.1] rfl ?_
              obtain ⟨y8, hy8, h⟩ := Option.bind_eq_some_iff.mp h
              refine rn_callS [.int l3] rfl rfl rfl ⟨rfl, rfl, rfl⟩ rfl rfl (e158 (d + 4) hy8) ?_
              refine rn_steps 0 118 [.ref l0, .int l1, .int l2, .int l3, .int l4] [.int y8.1, .int y7.1] rfl ?_
              refine rn_br (c := y7.1 < y8.1) rfl rfl decide_eq_true_iff (fun hb => ?_) (fun hb => ?_)
              · rw [if_pos hb] at h
                refine rn_steps 0 124 [.ref l0, .int l1, .int l2, .int l3, .int l4] [] rfl ?_
                exact e216_124 d _ ih _ _ _ _ _ _ _ h
              · rw [if_neg hb] at h
                refine rn_steps 1 138 [.ref l0, .int l1, .int l2, .int l3, .int l4] [] rfl ?_
                exact e216_138 d _ ih _ _ _ _ _ _ _ h
def f216_42 (l0 : Nat) (σ : xM) : Option (Int32 × xM) :=
  (cO σ l0 9).bind fun u2 =>
  (f151 l0 1 σ).bind fun y1 =>
  some (y1.1, y1.2)
set_option maxRecDepth 20000 in
set_option maxHeartbeats 1000000 in
theorem e216_42 (d : Nat) (l0 : Nat) (x1 x2 x3 x4 : Value) (σ : xM) (y : Int32 × xM) (h : f216_42 l0 σ = some y) : Rn (d + 5) 216 42 [.ref l0, x1, x2, x3, x4] [] σ (some (.int y.1), y.2) := by
  unfold f216_42 at h
  refine rn_steps 2 44 [.ref l0, x1, x2, x3, x4] [.int 1, .ref l0] rfl ?_
  obtain ⟨u2, hu2, h⟩ := Option.bind_eq_some_iff.mp h
  obtain ⟨y1, hy1, h⟩ := Option.bind_eq_some_iff.mp h
  refine rn_callV [.int 1] rfl rfl ⟨rfl, rfl⟩ hu2 rfl rfl (e151 (d + 4) hy1) ?_
  refine rn_steps 0 47 [.ref l0, x1, x2, x3, x4] [.int y1.1] rfl ?_
  cases h
  exact rn_ret rfl rfl rfl
/-- LastAskedModel.plot(II)I -/
def f216 (l0 : Nat) (l1 : Int32) (l2 : Int32) (σ : xM) : Option (Int32 × xM) :=
  (pI σ l0 9 0 0).bind fun σ1 =>
  (cO σ1 l0 9).bind fun u11 =>
  (f187 l0 l1 l2 σ1).bind fun y2 =>
  if y2.1 = 0 then
  f216_42 l0 y2.2
  else
  (gR y2.2 l0 9 16).bind fun r3 =>
  (aI y2.2 r3 42).bind fun v4 =>
  (f157 v4 l1 y2.2).bind fun y5 =>
  if y5.1 = 0 then
  f216_42 l0 y5.2
  else
  (gR y5.2 l0 9 16).bind fun r6 =>
  (aI y5.2 r6 42).bind fun v7 =>
  (f157 v7 l2 y5.2).bind fun y8 =>
  if y8.1 = 0 then
  f216_42 l0 y8.2
  else
  (cO y8.2 l0 9).bind fun u10 =>
  (f197 l0 y8.2).bind fun y9 =>
  f216_58 1100 l0 l1 l2 (-2) 0 y9
set_option maxRecDepth 20000 in
set_option maxHeartbeats 1000000 in
theorem e216 (d : Nat) {l0 : Nat} {l1 : Int32} {l2 : Int32} {σ : xM} {y : Int32 × xM} (h : f216 l0 l1 l2 σ = some y) : Rn (d + 5) 216 0 [.ref l0, .int l1, .int l2, .retAddr 0, .retAddr 0] [] σ (some (.int y.1), y.2) := by
  unfold f216 at h
  refine rn_steps 2 2 [.ref l0, .int l1, .int l2, .retAddr 0, .retAddr 0] [.int 0, .ref l0] rfl ?_
  obtain ⟨σ1, hσ1, h⟩ := Option.bind_eq_some_iff.mp h
  refine rn_pI (c := 9) (f := 0) rfl rfl ⟨⟨rfl, rfl⟩, rfl⟩ hσ1 ?_
  refine rn_steps 3 8 [.ref l0, .int l1, .int l2, .retAddr 0, .retAddr 0] [.int l2, .int l1, .ref l0] rfl ?_
  obtain ⟨u11, hu11, h⟩ := Option.bind_eq_some_iff.mp h
  obtain ⟨y2, hy2, h⟩ := Option.bind_eq_some_iff.mp h
  refine rn_callV [.int l1, .int l2] rfl rfl ⟨rfl, rfl⟩ hu11 rfl rfl (e187 (d + 3) hy2) ?_
  refine rn_steps 0 11 [.ref l0, .int l1, .int l2, .retAddr 0, .retAddr 0] [.int y2.1] rfl ?_
  refine rn_br (c := y2.1 = 0) rfl rfl decide_eq_true_iff (fun hb => ?_) (fun hb => ?_)
  · rw [if_pos hb] at h
    refine rn_steps 0 42 [.ref l0, .int l1, .int l2, .retAddr 0, .retAddr 0] [] rfl ?_
    exact e216_42 d _ _ _ _ _ _ _ h
  · rw [if_neg hb] at h
    refine rn_steps 1 15 [.ref l0, .int l1, .int l2, .retAddr 0, .retAddr 0] [.ref l0] rfl ?_
    obtain ⟨r3, hr3, h⟩ := Option.bind_eq_some_iff.mp h
    refine rn_gR (c := 9) (f := 16) rfl rfl ⟨⟨rfl, rfl⟩, rfl⟩ hr3 ?_
    refine rn_steps 1 20 [.ref l0, .int l1, .int l2, .retAddr 0, .retAddr 0] [.int 42, .ref r3] rfl ?_
    obtain ⟨v4, hv4, h⟩ := Option.bind_eq_some_iff.mp h
    refine rn_aI rfl hv4 ?_
    refine rn_steps 1 22 [.ref l0, .int l1, .int l2, .retAddr 0, .retAddr 0] [.int l1, .int v4] rfl ?_
    obtain ⟨y5, hy5, h⟩ := Option.bind_eq_some_iff.mp h
    refine rn_callS [.int v4, .int l1] rfl rfl rfl ⟨rfl, rfl, rfl⟩ rfl rfl (e157 (d + 4) hy5) ?_
    refine rn_steps 0 25 [.ref l0, .int l1, .int l2, .retAddr 0, .retAddr 0] [.int y5.1] rfl ?_
    refine rn_br (c := y5.1 = 0) rfl rfl decide_eq_true_iff (fun hb => ?_) (fun hb => ?_)
    · rw [if_pos hb] at h
      refine rn_steps 0 42 [.ref l0, .int l1, .int l2, .retAddr 0, .retAddr 0] [] rfl ?_
      exact e216_42 d _ _ _ _ _ _ _ h
    · rw [if_neg hb] at h
      refine rn_steps 1 29 [.ref l0, .int l1, .int l2, .retAddr 0, .retAddr 0] [.ref l0] rfl ?_
      obtain ⟨r6, hr6, h⟩ := Option.bind_eq_some_iff.mp h
      refine rn_gR (c := 9) (f := 16) rfl rfl ⟨⟨rfl, rfl⟩, rfl⟩ hr6 ?_
      refine rn_steps 1 34 [.ref l0, .int l1, .int l2, .retAddr 0, .retAddr 0] [.int 42, .ref r6] rfl ?_
      obtain ⟨v7, hv7, h⟩ := Option.bind_eq_some_iff.mp h
      refine rn_aI rfl hv7 ?_
      refine rn_steps 1 36 [.ref l0, .int l1, .int l2, .retAddr 0, .retAddr 0] [.int l2, .int v7] rfl ?_
      obtain ⟨y8, hy8, h⟩ := Option.bind_eq_some_iff.mp h
      refine rn_callS [.int v7, .int l2] rfl rfl rfl ⟨rfl, rfl, rfl⟩ rfl rfl (e157 (d + 4) hy8) ?_
      refine rn_steps 0 39 [.ref l0, .int l1, .int l2, .retAddr 0, .retAddr 0] [.int y8.1] rfl ?_
      refine rn_br (c := ¬ y8.1 = 0) rfl rfl decide_eq_true_iff (fun hb => ?_) (fun hb => ?_)
      · rw [if_neg hb] at h
        refine rn_steps 1 49 [.ref l0, .int l1, .int l2, .retAddr 0, .retAddr 0] [.ref l0] rfl ?_
        obtain ⟨u10, hu10, h⟩ := Option.bind_eq_some_iff.mp h
        obtain ⟨y9, hy9, h⟩ := Option.bind_eq_some_iff.mp h
        refine rn_callV [] rfl rfl ⟨rfl, rfl⟩ hu10 rfl rfl (e197 d hy9) ?_
        refine rn_steps 4 58 [.ref l0, .int l1, .int l2, .int (-2), .int 0] [] rfl ?_
        exact e216_58 d 1100 _ _ _ _ _ _ _ h
      · rw [if_pos (Decidable.not_not.mp hb)] at h
        refine rn_steps 0 42 [.ref l0, .int l1, .int l2, .retAddr 0, .retAddr 0] [] rfl ?_
        exact e216_42 d _ _ _ _ _ _ _ h
def f217_72 (l2 : Int64) (σ : xM) : Option (Int64 × xM) :=
  some (l2, σ)
set_option maxRecDepth 20000 in
set_option maxHeartbeats 1000000 in
theorem e217_72 (d : Nat) (l2 : Int64) (x0 x1 x4 : Value) (σ : xM) (y : Int64 × xM) (h : f217_72 l2 σ = some y) : Rn (d + 2) 217 72 [x0, x1, .long l2, .retAddr 1, x4] [] σ (some (.long y.1), y.2) := by
  unfold f217_72 at h
  refine rn_steps 1 73 [x0, x1, .long l2, .retAddr 1, x4] [.long l2] rfl ?_
  cases h
  exact rn_ret rfl rfl rfl
def f217_66 (K5 : Nat → Int32 → Int64 → Int32 → xM → Option (Int64 × xM)) (l0 : Nat) (l1 : Int32) (l2 : Int64) (l4 : Int32) (σ : xM) : Option (Int64 × xM) :=
  K5 l0 l1 l2 (l4 + 1) σ
set_option maxRecDepth 20000 in
set_option maxHeartbeats 1000000 in
theorem e217_66 (d : Nat) (K5 : Nat → Int32 → Int64 → Int32 → xM → Option (Int64 × xM)) (hK5 : ∀ (l0 : Nat) (l1 : Int32) (l2 : Int64) (l4 : Int32) (σ : xM) (y : Int64 × xM), K5 l0 l1 l2 l4 σ = some y → Rn (d + 2) 217 5 [.ref l0, .int l1, .long l2, .retAddr 1, .int l4] [] σ (some (.long y.1), y.2)) (l0 : Nat) (l1 : Int32) (l2 : Int64) (l4 : Int32) (σ : xM) (y : Int64 × xM) (h : f217_66 K5 l0 l1 l2 l4 σ = some y) : Rn (d + 2) 217 66 [.ref l0, .int l1, .long l2, .retAddr 1, .int l4] [] σ (some (.long y.1), y.2) := by
  unfold f217_66 at h
  refine rn_steps 2 5 [.ref l0, .int l1, .long l2, .retAddr 1, .int (l4 + 1)] [] rfl ?_
  exact hK5 _ _ _ _ _ _ h
def f217_64 (K5 : Nat → Int32 → Int64 → Int32 → xM → Option (Int64 × xM)) (l0 : Nat) (l1 : Int32) (l4 : Int32) (s0 : Int64) (s1 : Int64) (σ : xM) : Option (Int64 × xM) :=
  f217_66 K5 l0 l1 (s1 * s0) l4 σ
set_option maxRecDepth 20000 in
set_option maxHeartbeats 1000000 in
theorem e217_64 (d : Nat) (K5 : Nat → Int32 → Int64 → Int32 → xM → Option (Int64 × xM)) (hK5 : ∀ (l0 : Nat) (l1 : Int32) (l2 : Int64) (l4 : Int32) (σ : xM) (y : Int64 × xM), K5 l0 l1 l2 l4 σ = some y → Rn (d + 2) 217 5 [.ref l0, .int l1, .long l2, .retAddr 1, .int l4] [] σ (some (.long y.1), y.2)) (l0 : Nat) (l1 : Int32) (l4 : Int32) (s0 : Int64) (s1 : Int64) (x2 x3 : Value) (σ : xM) (y : Int64 × xM) (h : f217_64 K5 l0 l1 l4 s0 s1 σ = some y) : Rn (d + 2) 217 64 [.ref l0, .int l1, x2, x3, .int l4] [.long s0, .long s1] σ (some (.long y.1), y.2) := by
  unfold f217_64 at h
  refine rn_steps 2 66 [.ref l0, .int l1, .long (s1 * s0), .retAddr 1, .int l4] [] rfl ?_
  exact e217_66 d _ hK5 _ _ _ _ _ _ h
def f217_5 : Nat → Nat → Int32 → Int64 → Int32 → xM → Option (Int64 × xM)
  | 0, _, _, _, _, _ => none
  | n + 1, l0, l1, l2, l4, σ =>
    (gR σ l0 9 3).bind fun r1 =>
    (gI σ r1 8 2).bind fun v2 =>
    if v2 ≤ l4 then
    f217_72 l2 σ
    else
    (cO σ l0 9).bind fun u11 =>
    (f190 l0 l4 σ).bind fun y3 =>
    if y3.1 = 0 then
    f217_66 (f217_5 n) l0 l1 l2 l4 y3.2
    else
    (f157 l1 l4 y3.2).bind fun y4 =>
    if y4.1 = 0 then
    (gR y4.2 l0 9 3).bind fun r5 =>
    (gR y4.2 r5 8 9).bind fun r6 =>
    (aI y4.2 r6 l4).bind fun v7 =>
    f217_64 (f217_5 n) l0 l1 l4 ((100 - v7).toInt64) l2 y4.2
    else
    (gR y4.2 l0 9 3).bind fun r8 =>
    (gR y4.2 r8 8 9).bind fun r9 =>
    (aI y4.2 r9 l4).bind fun v10 =>
    f217_64 (f217_5 n) l0 l1 l4 v10.toInt64 l2 y4.2
set_option maxRecDepth 20000 in
set_option maxHeartbeats 1000000 in
theorem e217_5 (d : Nat) : ∀ (n : Nat) (l0 : Nat) (l1 : Int32) (l2 : Int64) (l4 : Int32) (σ : xM) (y : Int64 × xM), f217_5 n l0 l1 l2 l4 σ = some y → Rn (d + 2) 217 5 [.ref l0, .int l1, .long l2, .retAddr 1, .int l4] [] σ (some (.long y.1), y.2) := by
  intro n
  induction n with
  | zero => intro l0 l1 l2 l4 σ y h; cases h
  | succ n ih =>
    intro l0 l1 l2 l4 σ y h
    unfold f217_5 at h
    refine rn_steps 2 8 [.ref l0, .int l1, .long l2, .retAddr 1, .int l4] [.ref l0, .int l4] rfl ?_
    obtain ⟨r1, hr1, h⟩ := Option.bind_eq_some_iff.mp h
    refine rn_gR (c := 9) (f := 3) rfl rfl ⟨⟨rfl, rfl⟩, rfl⟩ hr1 ?_
    refine rn_steps 0 11 [.ref l0, .int l1, .long l2, .retAddr 1, .int l4] [.ref r1, .int l4] rfl ?_
    obtain ⟨v2, hv2, h⟩ := Option.bind_eq_some_iff.mp h
    refine rn_gI (c := 8) (f := 2) rfl rfl ⟨⟨rfl, rfl⟩, Or.inl rfl⟩ hv2 ?_
    refine rn_steps 0 14 [.ref l0, .int l1, .long l2, .retAddr 1, .int l4] [.int v2, .int l4] rfl ?_
    refine rn_br (c := v2 ≤ l4) rfl rfl decide_eq_true_iff (fun hb => ?_) (fun hb => ?_)
    · rw [if_pos hb] at h
      refine rn_steps 0 72 [.ref l0, .int l1, .long l2, .retAddr 1, .int l4] [] rfl ?_
      exact e217_72 d _ _ _ _ _ _ h
    · rw [if_neg hb] at h
      refine rn_steps 2 20 [.ref l0, .int l1, .long l2, .retAddr 1, .int l4] [.int l4, .ref l0] rfl ?_
      obtain ⟨u11, hu11, h⟩ := Option.bind_eq_some_iff.mp h
      obtain ⟨y3, hy3, h⟩ := Option.bind_eq_some_iff.mp h
      refine rn_callV [.int l4] rfl rfl ⟨rfl, rfl⟩ hu11 rfl rfl (e190 d hy3) ?_
      refine rn_steps 0 23 [.ref l0, .int l1, .long l2, .retAddr 1, .int l4] [.int y3.1] rfl ?_
      refine rn_br (c := y3.1 = 0) rfl rfl decide_eq_true_iff (fun hb => ?_) (fun hb => ?_)
      · rw [if_pos hb] at h
        refine rn_steps 0 66 [.ref l0, .int l1, .long l2, .retAddr 1, .int l4] [] rfl ?_
        exact e217_66 d _ ih _ _ _ _ _ _ h
      · rw [if_neg hb] at h
        refine rn_steps 3 30 [.ref l0, .int l1, .long l2, .retAddr 1, .int l4] [.int l4, .int l1, .long l2] rfl ?_
        obtain ⟨y4, hy4, h⟩ := Option.bind_eq_some_iff.mp h
        refine rn_callS [.int l1, .int l4] rfl rfl rfl ⟨rfl, rfl, rfl⟩ rfl rfl (e157 (d + 1) hy4) ?_
        refine rn_steps 0 33 [.ref l0, .int l1, .long l2, .retAddr 1, .int l4] [.int y4.1, .long l2] rfl ?_
        refine rn_br (c := y4.1 = 0) rfl rfl decide_eq_true_iff (fun hb => ?_) (fun hb => ?_)
        · rw [if_pos hb] at h
          refine rn_steps 2 53 [.ref l0, .int l1, .long l2, .retAddr 1, .int l4] [.ref l0, .int 100, .long l2] rfl ?_
          obtain ⟨r5, hr5, h⟩ := Option.bind_eq_some_iff.mp h
          refine rn_gR (c := 9) (f := 3) rfl rfl ⟨⟨rfl, rfl⟩, rfl⟩ hr5 ?_
          refine rn_steps 0 56 [.ref l0, .int l1, .long l2, .retAddr 1, .int l4] [.ref r5, .int 100, .long l2] rfl ?_
          obtain ⟨r6, hr6, h⟩ := Option.bind_eq_some_iff.mp h
          refine rn_gR (c := 8) (f := 9) rfl rfl ⟨⟨rfl, rfl⟩, rfl⟩ hr6 ?_
          refine rn_steps 1 61 [.ref l0, .int l1, .long l2, .retAddr 1, .int l4] [.int l4, .ref r6, .int 100, .long l2] rfl ?_
          obtain ⟨v7, hv7, h⟩ := Option.bind_eq_some_iff.mp h
          refine rn_aI rfl hv7 ?_
          refine rn_steps 2 64 [.ref l0, .int l1, .long l2, .retAddr 1, .int l4] [.long ((100 - v7).toInt64), .long l2] rfl ?_
          exact e217_64 d _ ih _ _ _ _ _ _ _ _ _ h
        · rw [if_neg hb] at h
          refine rn_steps 1 37 [.ref l0, .int l1, .long l2, .retAddr 1, .int l4] [.ref l0, .long l2] rfl ?_
          obtain ⟨r8, hr8, h⟩ := Option.bind_eq_some_iff.mp h
          refine rn_gR (c := 9) (f := 3) rfl rfl ⟨⟨rfl, rfl⟩, rfl⟩ hr8 ?_
          refine rn_steps 0 40 [.ref l0, .int l1, .long l2, .retAddr 1, .int l4] [.ref r8, .long l2] rfl ?_
          obtain ⟨r9, hr9, h⟩ := Option.bind_eq_some_iff.mp h
          refine rn_gR (c := 8) (f := 9) rfl rfl ⟨⟨rfl, rfl⟩, rfl⟩ hr9 ?_
          refine rn_steps 1 45 [.ref l0, .int l1, .long l2, .retAddr 1, .int l4] [.int l4, .ref r9, .long l2] rfl ?_
          obtain ⟨v10, hv10, h⟩ := Option.bind_eq_some_iff.mp h
          refine rn_aI rfl hv10 ?_
          refine rn_steps 2 64 [.ref l0, .int l1, .long l2, .retAddr 1, .int l4] [.long v10.toInt64, .long l2] rfl ?_
          exact e217_64 d _ ih _ _ _ _ _ _ _ _ _ h
/-- LastAskedModel.partOf(I)J -/
def f217 (l0 : Nat) (l1 : Int32) (σ : xM) : Option (Int64 × xM) :=
  f217_5 1100 l0 l1 1 0 σ
set_option maxRecDepth 20000 in
set_option maxHeartbeats 1000000 in
theorem e217 (d : Nat) {l0 : Nat} {l1 : Int32} {σ : xM} {y : Int64 × xM} (h : f217 l0 l1 σ = some y) : Rn (d + 2) 217 0 [.ref l0, .int l1, .retAddr 0, .retAddr 0, .retAddr 0] [] σ (some (.long y.1), y.2) := by
  unfold f217 at h
  refine rn_steps 4 5 [.ref l0, .int l1, .long 1, .retAddr 1, .int 0] [] rfl ?_
  exact e217_5 d 1100 _ _ _ _ _ _ h
def f218_48 (σ : xM) : Option xM :=
  some σ
set_option maxRecDepth 20000 in
set_option maxHeartbeats 1000000 in
theorem e218_48 (d : Nat) (x0 x1 : Value) (σ : xM) (y : xM) (h : f218_48 σ = some y) : Rn (d + 2) 218 48 [x0, x1] [] σ (none, y) := by
  unfold f218_48 at h
  cases h
  exact rn_ret rfl rfl rfl
def f218_38 (K7 : Nat → Int32 → xM → Option xM) (l0 : Nat) (l1 : Int32) (s0 : Int64) (s1 : Int64) (s2 : Nat) (σ : xM) : Option xM :=
  (pJ σ s2 9 25 (s1 * s0)).bind fun σ1 =>
  K7 l0 (l1 + 1) σ1
set_option maxRecDepth 20000 in
set_option maxHeartbeats 1000000 in
theorem e218_38 (d : Nat) (K7 : Nat → Int32 → xM → Option xM) (hK7 : ∀ (l0 : Nat) (l1 : Int32) (σ : xM) (y : xM), K7 l0 l1 σ = some y → Rn (d + 2) 218 7 [.ref l0, .int l1] [] σ (none, y)) (l0 : Nat) (l1 : Int32) (s0 : Int64) (s1 : Int64) (s2 : Nat) (σ : xM) (y : xM) (h : f218_38 K7 l0 l1 s0 s1 s2 σ = some y) : Rn (d + 2) 218 38 [.ref l0, .int l1] [.long s0, .long s1, .ref s2] σ (none, y) := by
  unfold f218_38 at h
  refine rn_steps 1 39 [.ref l0, .int l1] [.long (s1 * s0), .ref s2] rfl ?_
  obtain ⟨σ1, hσ1, h⟩ := Option.bind_eq_some_iff.mp h
  refine rn_pJ (c := 9) (f := 25) rfl rfl ⟨⟨rfl, rfl⟩, rfl⟩ hσ1 ?_
  refine rn_steps 2 7 [.ref l0, .int (l1 + 1)] [] rfl ?_
  exact hK7 _ _ _ _ h
def f218_7 : Nat → Nat → Int32 → xM → Option xM
  | 0, _, _, _ => none
  | n + 1, l0, l1, σ =>
    (gR σ l0 9 3).bind fun r1 =>
    (gI σ r1 8 2).bind fun v2 =>
    if v2 ≤ l1 then
    f218_48 σ
    else
    (gJ σ l0 9 25).bind fun v3 =>
    (cO σ l0 9).bind fun u5 =>
    (f190 l0 l1 σ).bind fun y4 =>
    if y4.1 = 0 then
    f218_38 (f218_7 n) l0 l1 1 v3 l0 y4.2
    else
    f218_38 (f218_7 n) l0 l1 100 v3 l0 y4.2
set_option maxRecDepth 20000 in
set_option maxHeartbeats 1000000 in
theorem e218_7 (d : Nat) : ∀ (n : Nat) (l0 : Nat) (l1 : Int32) (σ : xM) (y : xM), f218_7 n l0 l1 σ = some y → Rn (d + 2) 218 7 [.ref l0, .int l1] [] σ (none, y) := by
  intro n
  induction n with
  | zero => intro l0 l1 σ y h; cases h
  | succ n ih =>
    intro l0 l1 σ y h
    unfold f218_7 at h
    refine rn_steps 2 9 [.ref l0, .int l1] [.ref l0, .int l1] rfl ?_
    obtain ⟨r1, hr1, h⟩ := Option.bind_eq_some_iff.mp h
    refine rn_gR (c := 9) (f := 3) rfl rfl ⟨⟨rfl, rfl⟩, rfl⟩ hr1 ?_
    refine rn_steps 0 12 [.ref l0, .int l1] [.ref r1, .int l1] rfl ?_
    obtain ⟨v2, hv2, h⟩ := Option.bind_eq_some_iff.mp h
    refine rn_gI (c := 8) (f := 2) rfl rfl ⟨⟨rfl, rfl⟩, Or.inl rfl⟩ hv2 ?_
    refine rn_steps 0 15 [.ref l0, .int l1] [.int v2, .int l1] rfl ?_
    refine rn_br (c := v2 ≤ l1) rfl rfl decide_eq_true_iff (fun hb => ?_) (fun hb => ?_)
    · rw [if_pos hb] at h
      refine rn_steps 0 48 [.ref l0, .int l1] [] rfl ?_
      exact e218_48 d _ _ _ _ h
    · rw [if_neg hb] at h
      refine rn_steps 2 20 [.ref l0, .int l1] [.ref l0, .ref l0] rfl ?_
      obtain ⟨v3, hv3, h⟩ := Option.bind_eq_some_iff.mp h
      refine rn_gJ (c := 9) (f := 25) rfl rfl ⟨⟨rfl, rfl⟩, rfl⟩ hv3 ?_
      refine rn_steps 2 25 [.ref l0, .int l1] [.int l1, .ref l0, .long v3, .ref l0] rfl ?_
      obtain ⟨u5, hu5, h⟩ := Option.bind_eq_some_iff.mp h
      obtain ⟨y4, hy4, h⟩ := Option.bind_eq_some_iff.mp h
      refine rn_callV [.int l1] rfl rfl ⟨rfl, rfl⟩ hu5 rfl rfl (e190 d hy4) ?_
      refine rn_steps 0 28 [.ref l0, .int l1] [.int y4.1, .long v3, .ref l0] rfl ?_
      refine rn_br (c := y4.1 = 0) rfl rfl decide_eq_true_iff (fun hb => ?_) (fun hb => ?_)
      · rw [if_pos hb] at h
        refine rn_steps 1 38 [.ref l0, .int l1] [.long 1, .long v3, .ref l0] rfl ?_
        exact e218_38 d _ ih _ _ _ _ _ _ _ h
      · rw [if_neg hb] at h
        refine rn_steps 2 38 [.ref l0, .int l1] [.long 100, .long v3, .ref l0] rfl ?_
        exact e218_38 d _ ih _ _ _ _ _ _ _ h
/-- LastAskedModel.wholeOf()V -/
def f218 (l0 : Nat) (σ : xM) : Option xM :=
  (pJ σ l0 9 25 1).bind fun σ1 =>
  f218_7 1100 l0 0 σ1
set_option maxRecDepth 20000 in
set_option maxHeartbeats 1000000 in
theorem e218 (d : Nat) {l0 : Nat} {σ : xM} {y : xM} (h : f218 l0 σ = some y) : Rn (d + 2) 218 0 [.ref l0, .retAddr 0] [] σ (none, y) := by
  unfold f218 at h
  refine rn_steps 2 2 [.ref l0, .retAddr 0] [.long 1, .ref l0] rfl ?_
  obtain ⟨σ1, hσ1, h⟩ := Option.bind_eq_some_iff.mp h
  refine rn_pJ (c := 9) (f := 25) rfl rfl ⟨⟨rfl, rfl⟩, rfl⟩ hσ1 ?_
  refine rn_steps 2 7 [.ref l0, .int 0] [] rfl ?_
  exact e218_7 d 1100 _ _ _ _ h
def f219_86 (l2 : Int64) (σ : xM) : Option (Int64 × xM) :=
  some (l2, σ)
set_option maxRecDepth 20000 in
set_option maxHeartbeats 1000000 in
theorem e219_86 (d : Nat) (l2 : Int64) (x0 x1 x4 x5 x6 : Value) (σ : xM) (y : Int64 × xM) (h : f219_86 l2 σ = some y) : Rn (d + 4) 219 86 [x0, x1, .long l2, .retAddr 1, x4, x5, x6] [] σ (some (.long y.1), y.2) := by
  unfold f219_86 at h
  refine rn_steps 1 87 [x0, x1, .long l2, .retAddr 1, x4, x5, x6] [.long l2] rfl ?_
  cases h
  exact rn_ret rfl rfl rfl
def f219_80 (K13 : Nat → Int32 → Int64 → Int32 → xM → Option (Int64 × xM)) (l0 : Nat) (l1 : Int32) (l2 : Int64) (l4 : Int32) (σ : xM) : Option (Int64 × xM) :=
  K13 l0 l1 l2 (l4 + 1) σ
set_option maxRecDepth 20000 in
set_option maxHeartbeats 1000000 in
theorem e219_80 (d : Nat) (K13 : Nat → Int32 → Int64 → Int32 → xM → Option (Int64 × xM)) (hK13 : ∀ (l0 : Nat) (l1 : Int32) (l2 : Int64) (l4 : Int32) (x5 x6 : Value) (σ : xM) (y : Int64 × xM), K13 l0 l1 l2 l4 σ = some y → Rn (d + 4) 219 13 [.ref l0, .int l1, .long l2, .retAddr 1, .int l4, x5, x6] [] σ (some (.long y.1), y.2)) (l0 : Nat) (l1 : Int32) (l2 : Int64) (l4 : Int32) (x5 x6 : Value) (σ : xM) (y : Int64 × xM) (h : f219_80 K13 l0 l1 l2 l4 σ = some y) : Rn (d + 4) 219 80 [.ref l0, .int l1, .long l2, .retAddr 1, .int l4, x5, x6] [] σ (some (.long y.1), y.2) := by
  unfold f219_80 at h
  refine rn_steps 2 13 [.ref l0, .int l1, .long l2, .retAddr 1, .int (l4 + 1), x5, x6] [] rfl ?_
  exact hK13 _ _ _ _ _ _ _ _ h
def f219_13 : Nat → Nat → Int32 → Int64 → Int32 → xM → Option (Int64 × xM)
  | 0, _, _, _, _, _ => none
  | n + 1, l0, l1, l2, l4, σ =>
    (gR σ l0 9 17).bind fun r1 =>
    (aI σ r1 42).bind fun v2 =>
    if v2 < l4 then
    f219_86 l2 σ
    else
    (gR σ l0 9 17).bind fun r3 =>
    (aI σ r3 42).bind fun v4 =>
    if (l4 &&& (v4 ^^^ (-1))) = 0 then
    (cO σ l0 9).bind fun u10 =>
    (f217 l0 l4 σ).bind fun y5 =>
    if (lg_cmp y5.1 0) = 0 then
    f219_80 (f219_13 n) l0 l1 l2 l4 y5.2
    else
    (cO y5.2 l0 9).bind fun u9 =>
    (f195 l0 l4 y5.2).bind fun y6 =>
    (gR y6 l0 9 23).bind fun r7 =>
    (aI y6 r7 l1).bind fun v8 =>
    f219_80 (f219_13 n) l0 l1 (l2 + (y5.1 * v8.toInt64)) l4 y6
    else
    f219_80 (f219_13 n) l0 l1 l2 l4 σ
set_option maxRecDepth 20000 in
set_option maxHeartbeats 1000000 in
theorem e219_13 (d : Nat) : ∀ (n : Nat) (l0 : Nat) (l1 : Int32) (l2 : Int64) (l4 : Int32) (x5 x6 : Value) (σ : xM) (y : Int64 × xM), f219_13 n l0 l1 l2 l4 σ = some y → Rn (d + 4) 219 13 [.ref l0, .int l1, .long l2, .retAddr 1, .int l4, x5, x6] [] σ (some (.long y.1), y.2) := by
  intro n
  induction n with
  | zero => intro l0 l1 l2 l4 x5 x6 σ y h; cases h
  | succ n ih =>
    intro l0 l1 l2 l4 x5 x6 σ y h
    unfold f219_13 at h
    refine rn_steps 2 16 [.ref l0, .int l1, .long l2, .retAddr 1, .int l4, x5, x6] [.ref l0, .int l4] rfl ?_
    obtain ⟨r1, hr1, h⟩ := Option.bind_eq_some_iff.mp h
    refine rn_gR (c := 9) (f := 17) rfl rfl ⟨⟨rfl, rfl⟩, rfl⟩ hr1 ?_
    refine rn_steps 1 21 [.ref l0, .int l1, .long l2, .retAddr 1, .int l4, x5, x6] [.int 42, .ref r1, .int l4] rfl ?_
    obtain ⟨v2, hv2, h⟩ := Option.bind_eq_some_iff.mp h
    refine rn_aI rfl hv2 ?_
    refine rn_steps 0 22 [.ref l0, .int l1, .long l2, .retAddr 1, .int l4, x5, x6] [.int v2, .int l4] rfl ?_
    refine rn_br (c := v2 < l4) rfl rfl decide_eq_true_iff (fun hb => ?_) (fun hb => ?_)
    · rw [if_pos hb] at h
      refine rn_steps 0 86 [.ref l0, .int l1, .long l2, .retAddr 1, .int l4, x5, x6] [] rfl ?_
      exact e219_86 d _ _ _ _ _ _ _ _ h
    · rw [if_neg hb] at h
      refine rn_steps 2 28 [.ref l0, .int l1, .long l2, .retAddr 1, .int l4, x5, x6] [.ref l0, .int l4] rfl ?_
      obtain ⟨r3, hr3, h⟩ := Option.bind_eq_some_iff.mp h
      refine rn_gR (c := 9) (f := 17) rfl rfl ⟨⟨rfl, rfl⟩, rfl⟩ hr3 ?_
      refine rn_steps 1 33 [.ref l0, .int l1, .long l2, .retAddr 1, .int l4, x5, x6] [.int 42, .ref r3, .int l4] rfl ?_
      obtain ⟨v4, hv4, h⟩ := Option.bind_eq_some_iff.mp h
      refine rn_aI rfl hv4 ?_
      refine rn_steps 3 37 [.ref l0, .int l1, .long l2, .retAddr 1, .int l4, x5, x6] [.int (l4 &&& (v4 ^^^ (-1)))] rfl ?_
      refine rn_br (c := (l4 &&& (v4 ^^^ (-1))) = 0) rfl rfl decide_eq_true_iff (fun hb => ?_) (fun hb => ?_)
      · rw [if_pos hb] at h
        refine rn_steps 2 46 [.ref l0, .int l1, .long l2, .retAddr 1, .int l4, x5, x6] [.int l4, .ref l0] rfl ?_
        obtain ⟨u10, hu10, h⟩ := Option.bind_eq_some_iff.mp h
        obtain ⟨y5, hy5, h⟩ := Option.bind_eq_some_iff.mp h
        refine rn_callV [.int l4] rfl rfl ⟨rfl, rfl⟩ hu10 rfl rfl (e217 (d + 1) hy5) ?_
        refine rn_steps 4 55 [.ref l0, .int l1, .long l2, .retAddr 1, .int l4, .long y5.1, .retAddr 1] [.int (lg_cmp y5.1 0)] rfl ?_
        refine rn_br (c := ¬ (lg_cmp y5.1 0) = 0) rfl rfl decide_eq_true_iff (fun hb => ?_) (fun hb => ?_)
        · rw [if_neg hb] at h
          refine rn_steps 2 64 [.ref l0, .int l1, .long l2, .retAddr 1, .int l4, .long y5.1, .retAddr 1] [.int l4, .ref l0] rfl ?_
          obtain ⟨u9, hu9, h⟩ := Option.bind_eq_some_iff.mp h
          obtain ⟨y6, hy6, h⟩ := Option.bind_eq_some_iff.mp h
          refine rn_callV [.int l4] rfl rfl ⟨rfl, rfl⟩ hu9 rfl rfl (e195 (d + 1) hy6) ?_
          refine rn_steps 3 71 [.ref l0, .int l1, .long l2, .retAddr 1, .int l4, .long y5.1, .retAddr 1] [.ref l0, .long y5.1, .long l2] rfl ?_
          obtain ⟨r7, hr7, h⟩ := Option.bind_eq_some_iff.mp h
          refine rn_gR (c := 9) (f := 23) rfl rfl ⟨⟨rfl, rfl⟩, rfl⟩ hr7 ?_
          refine rn_steps 1 75 [.ref l0, .int l1, .long l2, .retAddr 1, .int l4, .long y5.1, .retAddr 1] [.int l1, .ref r7, .long y5.1, .long l2] rfl ?_
          obtain ⟨v8, hv8, h⟩ := Option.bind_eq_some_iff.mp h
          refine rn_aI rfl hv8 ?_
          refine rn_steps 4 80 [.ref l0, .int l1, .long (l2 + (y5.1 * v8.toInt64)), .retAddr 1, .int l4, .long y5.1, .retAddr 1] [] rfl ?_
          exact e219_80 d _ ih _ _ _ _ _ _ _ _ h
        · rw [if_pos (Decidable.not_not.mp hb)] at h
          refine rn_steps 1 80 [.ref l0, .int l1, .long l2, .retAddr 1, .int l4, .long y5.1, .retAddr 1] [] rfl ?_
          exact e219_80 d _ ih _ _ _ _ _ _ _ _ h
      · rw [if_neg hb] at h
        refine rn_steps 1 80 [.ref l0, .int l1, .long l2, .retAddr 1, .int l4, x5, x6] [] rfl ?_
        exact e219_80 d _ ih _ _ _ _ _ _ _ _ h
/-- LastAskedModel.meanOf(I)J -/
def f219 (l0 : Nat) (l1 : Int32) (σ : xM) : Option (Int64 × xM) :=
  (cO σ l0 9).bind fun u4 =>
  (f193 l0 σ).bind fun y1 =>
  (cO y1 l0 9).bind fun u3 =>
  (f218 l0 y1).bind fun y2 =>
  f219_13 1100 l0 l1 0 0 y2
set_option maxRecDepth 20000 in
set_option maxHeartbeats 1000000 in
theorem e219 (d : Nat) {l0 : Nat} {l1 : Int32} {σ : xM} {y : Int64 × xM} (h : f219 l0 l1 σ = some y) : Rn (d + 4) 219 0 [.ref l0, .int l1, .retAddr 0, .retAddr 0, .retAddr 0, .retAddr 0, .retAddr 0] [] σ (some (.long y.1), y.2) := by
  unfold f219 at h
  refine rn_steps 3 3 [.ref l0, .int l1, .long 0, .retAddr 1, .retAddr 0, .retAddr 0, .retAddr 0] [.ref l0] rfl ?_
  obtain ⟨u4, hu4, h⟩ := Option.bind_eq_some_iff.mp h
  obtain ⟨y1, hy1, h⟩ := Option.bind_eq_some_iff.mp h
  refine rn_callV [] rfl rfl ⟨rfl, rfl⟩ hu4 rfl rfl (e193 d hy1) ?_
  refine rn_steps 1 7 [.ref l0, .int l1, .long 0, .retAddr 1, .retAddr 0, .retAddr 0, .retAddr 0] [.ref l0] rfl ?_
  obtain ⟨u3, hu3, h⟩ := Option.bind_eq_some_iff.mp h
  obtain ⟨y2, hy2, h⟩ := Option.bind_eq_some_iff.mp h
  refine rn_callV [] rfl rfl ⟨rfl, rfl⟩ hu3 rfl rfl (e218 (d + 1) hy2) ?_
  refine rn_steps 2 13 [.ref l0, .int l1, .long 0, .retAddr 1, .int 0, .retAddr 0, .retAddr 0] [] rfl ?_
  exact e219_13 d 1100 _ _ _ _ _ _ _ _ h
def f220_55 (l0 : Nat) (l2 : Int32) (l3 : Int64) (σ : xM) : Option (Int64 × xM) :=
  (gJ σ l0 9 25).bind fun v1 =>
  (cO σ l0 9).bind fun u3 =>
  (f160 l0 l3 v1 l2 σ).bind fun y2 =>
  some (y2.1, y2.2)
set_option maxRecDepth 20000 in
set_option maxHeartbeats 1000000 in
theorem e220_55 (d : Nat) (l0 : Nat) (l2 : Int32) (l3 : Int64) (x1 : Value) (σ : xM) (y : Int64 × xM) (h : f220_55 l0 l2 l3 σ = some y) : Rn (d + 5) 220 55 [.ref l0, x1, .int l2, .long l3, .retAddr 1] [] σ (some (.long y.1), y.2) := by
  unfold f220_55 at h
  refine rn_steps 3 58 [.ref l0, x1, .int l2, .long l3, .retAddr 1] [.ref l0, .long l3, .ref l0] rfl ?_
  obtain ⟨v1, hv1, h⟩ := Option.bind_eq_some_iff.mp h
  refine rn_gJ (c := 9) (f := 25) rfl rfl ⟨⟨rfl, rfl⟩, rfl⟩ hv1 ?_
  refine rn_steps 1 62 [.ref l0, x1, .int l2, .long l3, .retAddr 1] [.int l2, .long v1, .long l3, .ref l0] rfl ?_
  obtain ⟨u3, hu3, h⟩ := Option.bind_eq_some_iff.mp h
  obtain ⟨y2, hy2, h⟩ := Option.bind_eq_some_iff.mp h
  refine rn_callV [.long l3, .long v1, .int l2] rfl rfl ⟨rfl, rfl⟩ hu3 rfl rfl (e160 (d + 3) hy2) ?_
  refine rn_steps 0 65 [.ref l0, x1, .int l2, .long l3, .retAddr 1] [.long y2.1] rfl ?_
  cases h
  exact rn_ret rfl rfl rfl
def f220_41 (l0 : Nat) (l1 : Int32) (l2 : Int32) (s0 : Int64) (σ : xM) : Option (Int64 × xM) :=
  (cO σ l0 9).bind fun u3 =>
  (f190 l0 l1 σ).bind fun y1 =>
  if y1.1 = 0 then
  (pJ y1.2 l0 9 25 1).bind fun σ2 =>
  f220_55 l0 l2 s0 σ2
  else
  f220_55 l0 l2 s0 y1.2
set_option maxRecDepth 20000 in
set_option maxHeartbeats 1000000 in
theorem e220_41 (d : Nat) (l0 : Nat) (l1 : Int32) (l2 : Int32) (s0 : Int64) (x3 x4 : Value) (σ : xM) (y : Int64 × xM) (h : f220_41 l0 l1 l2 s0 σ = some y) : Rn (d + 5) 220 41 [.ref l0, .int l1, .int l2, x3, x4] [.long s0] σ (some (.long y.1), y.2) := by
  unfold f220_41 at h
  refine rn_steps 3 44 [.ref l0, .int l1, .int l2, .long s0, .retAddr 1] [.int l1, .ref l0] rfl ?_
  obtain ⟨u3, hu3, h⟩ := Option.bind_eq_some_iff.mp h
  obtain ⟨y1, hy1, h⟩ := Option.bind_eq_some_iff.mp h
  refine rn_callV [.int l1] rfl rfl ⟨rfl, rfl⟩ hu3 rfl rfl (e190 (d + 3) hy1) ?_
  refine rn_steps 0 47 [.ref l0, .int l1, .int l2, .long s0, .retAddr 1] [.int y1.1] rfl ?_
  refine rn_br (c := ¬ y1.1 = 0) rfl rfl decide_eq_true_iff (fun hb => ?_) (fun hb => ?_)
  · rw [if_neg hb] at h
    refine rn_steps 0 55 [.ref l0, .int l1, .int l2, .long s0, .retAddr 1] [] rfl ?_
    exact e220_55 d _ _ _ _ _ _ h
  · rw [if_pos (Decidable.not_not.mp hb)] at h
    refine rn_steps 2 52 [.ref l0, .int l1, .int l2, .long s0, .retAddr 1] [.long 1, .ref l0] rfl ?_
    obtain ⟨σ2, hσ2, h⟩ := Option.bind_eq_some_iff.mp h
    refine rn_pJ (c := 9) (f := 25) rfl rfl ⟨⟨rfl, rfl⟩, rfl⟩ hσ2 ?_
    refine rn_steps 0 55 [.ref l0, .int l1, .int l2, .long s0, .retAddr 1] [] rfl ?_
    exact e220_55 d _ _ _ _ _ _ h
/-- LastAskedModel.mean(IZ)J -/
def f220 (l0 : Nat) (l1 : Int32) (l2 : Int32) (σ : xM) : Option (Int64 × xM) :=
  (pI σ l0 9 0 0).bind fun σ1 =>
  (cO σ1 l0 9).bind fun u11 =>
  (f186 l0 l1 σ1).bind fun y2 =>
  if y2.1 = 0 then
  (cO y2.2 l0 9).bind fun u10 =>
  (f151 l0 1 y2.2).bind fun y9 =>
  some (y9.1.toInt64, y9.2)
  else
  (cO y2.2 l0 9).bind fun u8 =>
  (f188 l0 y2.2).bind fun y3 =>
  (cO y3 l0 9).bind fun u7 =>
  (f190 l0 l1 y3).bind fun y4 =>
  if y4.1 = 0 then
  f220_41 l0 l1 l2 0 y4.2
  else
  (cO y4.2 l0 9).bind fun u6 =>
  (f219 l0 l1 y4.2).bind fun y5 =>
  f220_41 l0 l1 l2 y5.1 y5.2
set_option maxRecDepth 20000 in
set_option maxHeartbeats 1000000 in
theorem e220 (d : Nat) {l0 : Nat} {l1 : Int32} {l2 : Int32} {σ : xM} {y : Int64 × xM} (h : f220 l0 l1 l2 σ = some y) : Rn (d + 5) 220 0 [.ref l0, .int l1, .int l2, .retAddr 0, .retAddr 0] [] σ (some (.long y.1), y.2) := by
  unfold f220 at h
  refine rn_steps 2 2 [.ref l0, .int l1, .int l2, .retAddr 0, .retAddr 0] [.int 0, .ref l0] rfl ?_
  obtain ⟨σ1, hσ1, h⟩ := Option.bind_eq_some_iff.mp h
  refine rn_pI (c := 9) (f := 0) rfl rfl ⟨⟨rfl, rfl⟩, rfl⟩ hσ1 ?_
  refine rn_steps 2 7 [.ref l0, .int l1, .int l2, .retAddr 0, .retAddr 0] [.int l1, .ref l0] rfl ?_
  obtain ⟨u11, hu11, h⟩ := Option.bind_eq_some_iff.mp h
  obtain ⟨y2, hy2, h⟩ := Option.bind_eq_some_iff.mp h
  refine rn_callV [.int l1] rfl rfl ⟨rfl, rfl⟩ hu11 rfl rfl (e186 (d + 4) hy2) ?_
  refine rn_steps 0 10 [.ref l0, .int l1, .int l2, .retAddr 0, .retAddr 0] [.int y2.1] rfl ?_
  refine rn_br (c := ¬ y2.1 = 0) rfl rfl decide_eq_true_iff (fun hb => ?_) (fun hb => ?_)
  · rw [if_neg hb] at h
    refine rn_steps 1 21 [.ref l0, .int l1, .int l2, .retAddr 0, .retAddr 0] [.ref l0] rfl ?_
    obtain ⟨u8, hu8, h⟩ := Option.bind_eq_some_iff.mp h
    obtain ⟨y3, hy3, h⟩ := Option.bind_eq_some_iff.mp h
    refine rn_callV [] rfl rfl ⟨rfl, rfl⟩ hu8 rfl rfl (e188 (d + 4) hy3) ?_
    refine rn_steps 2 26 [.ref l0, .int l1, .int l2, .retAddr 0, .retAddr 0] [.int l1, .ref l0] rfl ?_
    obtain ⟨u7, hu7, h⟩ := Option.bind_eq_some_iff.mp h
    obtain ⟨y4, hy4, h⟩ := Option.bind_eq_some_iff.mp h
    refine rn_callV [.int l1] rfl rfl ⟨rfl, rfl⟩ hu7 rfl rfl (e190 (d + 3) hy4) ?_
    refine rn_steps 0 29 [.ref l0, .int l1, .int l2, .retAddr 0, .retAddr 0] [.int y4.1] rfl ?_
    refine rn_br (c := y4.1 = 0) rfl rfl decide_eq_true_iff (fun hb => ?_) (fun hb => ?_)
    · rw [if_pos hb] at h
      refine rn_steps 1 41 [.ref l0, .int l1, .int l2, .retAddr 0, .retAddr 0] [.long 0] rfl ?_
      exact e220_41 d _ _ _ _ _ _ _ _ h
    · rw [if_neg hb] at h
      refine rn_steps 2 34 [.ref l0, .int l1, .int l2, .retAddr 0, .retAddr 0] [.int l1, .ref l0] rfl ?_
      obtain ⟨u6, hu6, h⟩ := Option.bind_eq_some_iff.mp h
      obtain ⟨y5, hy5, h⟩ := Option.bind_eq_some_iff.mp h
      refine rn_callV [.int l1] rfl rfl ⟨rfl, rfl⟩ hu6 rfl rfl (e219 d hy5) ?_
      refine rn_steps 1 41 [.ref l0, .int l1, .int l2, .retAddr 0, .retAddr 0] [.long y5.1] rfl ?_
      exact e220_41 d _ _ _ _ _ _ _ _ h
  · rw [if_pos (Decidable.not_not.mp hb)] at h
    refine rn_steps 2 15 [.ref l0, .int l1, .int l2, .retAddr 0, .retAddr 0] [.int 1, .ref l0] rfl ?_
    obtain ⟨u10, hu10, h⟩ := Option.bind_eq_some_iff.mp h
    obtain ⟨y9, hy9, h⟩ := Option.bind_eq_some_iff.mp h
    refine rn_callV [.int 1] rfl rfl ⟨rfl, rfl⟩ hu10 rfl rfl (e151 (d + 4) hy9) ?_
    refine rn_steps 1 19 [.ref l0, .int l1, .int l2, .retAddr 0, .retAddr 0] [.long y9.1.toInt64] rfl ?_
    cases h
    exact rn_ret rfl rfl rfl
def f221_119 (l0 : Nat) (l3 : Int32) (l4 : Int64) (σ : xM) : Option (Int64 × xM) :=
  (gJ σ l0 9 25).bind fun v1 =>
  (cO σ l0 9).bind fun u3 =>
  (f160 l0 l4 v1 l3 σ).bind fun y2 =>
  some (y2.1, y2.2)
set_option maxRecDepth 20000 in
set_option maxHeartbeats 1000000 in
theorem e221_119 (d : Nat) (l0 : Nat) (l3 : Int32) (l4 : Int64) (x1 x2 x6 : Value) (σ : xM) (y : Int64 × xM) (h : f221_119 l0 l3 l4 σ = some y) : Rn (d + 5) 221 119 [.ref l0, x1, x2, .int l3, .long l4, .retAddr 1, x6] [] σ (some (.long y.1), y.2) := by
  unfold f221_119 at h
  refine rn_steps 3 123 [.ref l0, x1, x2, .int l3, .long l4, .retAddr 1, x6] [.ref l0, .long l4, .ref l0] rfl ?_
  obtain ⟨v1, hv1, h⟩ := Option.bind_eq_some_iff.mp h
  refine rn_gJ (c := 9) (f := 25) rfl rfl ⟨⟨rfl, rfl⟩, rfl⟩ hv1 ?_
  refine rn_steps 1 127 [.ref l0, x1, x2, .int l3, .long l4, .retAddr 1, x6] [.int l3, .long v1, .long l4, .ref l0] rfl ?_
  obtain ⟨u3, hu3, h⟩ := Option.bind_eq_some_iff.mp h
  obtain ⟨y2, hy2, h⟩ := Option.bind_eq_some_iff.mp h
  refine rn_callV [.long l4, .long v1, .int l3] rfl rfl ⟨rfl, rfl⟩ hu3 rfl rfl (e160 (d + 3) hy2) ?_
  refine rn_steps 0 130 [.ref l0, x1, x2, .int l3, .long l4, .retAddr 1, x6] [.long y2.1] rfl ?_
  cases h
  exact rn_ret rfl rfl rfl
def f221_113 (K52 : Nat → Int32 → Int32 → Int32 → Int64 → Int32 → xM → Option (Int64 × xM)) (l0 : Nat) (l1 : Int32) (l2 : Int32) (l3 : Int32) (l4 : Int64) (l6 : Int32) (σ : xM) : Option (Int64 × xM) :=
  K52 l0 l1 l2 l3 l4 (l6 + 1) σ
set_option maxRecDepth 20000 in
set_option maxHeartbeats 1000000 in
theorem e221_113 (d : Nat) (K52 : Nat → Int32 → Int32 → Int32 → Int64 → Int32 → xM → Option (Int64 × xM)) (hK52 : ∀ (l0 : Nat) (l1 : Int32) (l2 : Int32) (l3 : Int32) (l4 : Int64) (l6 : Int32) (σ : xM) (y : Int64 × xM), K52 l0 l1 l2 l3 l4 l6 σ = some y → Rn (d + 5) 221 52 [.ref l0, .int l1, .int l2, .int l3, .long l4, .retAddr 1, .int l6] [] σ (some (.long y.1), y.2)) (l0 : Nat) (l1 : Int32) (l2 : Int32) (l3 : Int32) (l4 : Int64) (l6 : Int32) (σ : xM) (y : Int64 × xM) (h : f221_113 K52 l0 l1 l2 l3 l4 l6 σ = some y) : Rn (d + 5) 221 113 [.ref l0, .int l1, .int l2, .int l3, .long l4, .retAddr 1, .int l6] [] σ (some (.long y.1), y.2) := by
  unfold f221_113 at h
  refine rn_steps 2 52 [.ref l0, .int l1, .int l2, .int l3, .long l4, .retAddr 1, .int (l6 + 1)] [] rfl ?_
  exact hK52 _ _ _ _ _ _ _ _ h
def f221_110 (K52 : Nat → Int32 → Int32 → Int32 → Int64 → Int32 → xM → Option (Int64 × xM)) (l0 : Nat) (l1 : Int32) (l2 : Int32) (l3 : Int32) (l6 : Int32) (s0 : Int64) (s1 : Int64) (σ : xM) : Option (Int64 × xM) :=
  f221_113 K52 l0 l1 l2 l3 (s1 + s0) l6 σ
set_option maxRecDepth 20000 in
set_option maxHeartbeats 1000000 in
theorem e221_110 (d : Nat) (K52 : Nat → Int32 → Int32 → Int32 → Int64 → Int32 → xM → Option (Int64 × xM)) (hK52 : ∀ (l0 : Nat) (l1 : Int32) (l2 : Int32) (l3 : Int32) (l4 : Int64) (l6 : Int32) (σ : xM) (y : Int64 × xM), K52 l0 l1 l2 l3 l4 l6 σ = some y → Rn (d + 5) 221 52 [.ref l0, .int l1, .int l2, .int l3, .long l4, .retAddr 1, .int l6] [] σ (some (.long y.1), y.2)) (l0 : Nat) (l1 : Int32) (l2 : Int32) (l3 : Int32) (l6 : Int32) (s0 : Int64) (s1 : Int64) (x4 x5 : Value) (σ : xM) (y : Int64 × xM) (h : f221_110 K52 l0 l1 l2 l3 l6 s0 s1 σ = some y) : Rn (d + 5) 221 110 [.ref l0, .int l1, .int l2, .int l3, x4, x5, .int l6] [.long s0, .long s1] σ (some (.long y.1), y.2) := by
  unfold f221_110 at h
  refine rn_steps 2 113 [.ref l0, .int l1, .int l2, .int l3, .long (s1 + s0), .retAddr 1, .int l6] [] rfl ?_
  exact e221_113 d _ hK52 _ _ _ _ _ _ _ _ h
def f221_52 : Nat → Nat → Int32 → Int32 → Int32 → Int64 → Int32 → xM → Option (Int64 × xM)
  | 0, _, _, _, _, _, _, _ => none
  | n + 1, l0, l1, l2, l3, l4, l6, σ =>
    (gR σ l0 9 17).bind fun r1 =>
    (aI σ r1 42).bind fun v2 =>
    if v2 < l6 then
    f221_119 l0 l3 l4 σ
    else
    (gR σ l0 9 17).bind fun r3 =>
    (aI σ r3 42).bind fun v4 =>
    if (l6 &&& (v4 ^^^ (-1))) = 0 then
    (cO σ l0 9).bind fun u10 =>
    (f195 l0 l6 σ).bind fun y5 =>
    (gR y5 l0 9 23).bind fun r6 =>
    (aI y5 r6 l1).bind fun v7 =>
    if v7 < l2 then
    f221_110 (f221_52 n) l0 l1 l2 l3 l6 0 l4 y5
    else
    (cO y5 l0 9).bind fun u9 =>
    (f217 l0 l6 y5).bind fun y8 =>
    f221_110 (f221_52 n) l0 l1 l2 l3 l6 y8.1 l4 y8.2
    else
    f221_113 (f221_52 n) l0 l1 l2 l3 l4 l6 σ
set_option maxRecDepth 20000 in
set_option maxHeartbeats 1000000 in
theorem e221_52 (d : Nat) : ∀ (n : Nat) (l0 : Nat) (l1 : Int32) (l2 : Int32) (l3 : Int32) (l4 : Int64) (l6 : Int32) (σ : xM) (y : Int64 × xM), f221_52 n l0 l1 l2 l3 l4 l6 σ = some y → Rn (d + 5) 221 52 [.ref l0, .int l1, .int l2, .int l3, .long l4, .retAddr 1, .int l6] [] σ (some (.long y.1), y.2) := by
  intro n
  induction n with
  | zero => intro l0 l1 l2 l3 l4 l6 σ y h; cases h
  | succ n ih =>
    intro l0 l1 l2 l3 l4 l6 σ y h
    unfold f221_52 at h
    refine rn_steps 2 55 [.ref l0, .int l1, .int l2, .int l3, .long l4, .retAddr 1, .int l6] [.ref l0, .int l6] rfl ?_
    obtain ⟨r1, hr1, h⟩ := Option.bind_eq_some_iff.mp h
    refine rn_gR (c := 9) (f := 17) rfl rfl ⟨⟨rfl, rfl⟩, rfl⟩ hr1 ?_
    refine rn_steps 1 60 [.ref l0, .int l1, .int l2, .int l3, .long l4, .retAddr 1, .int l6] [.int 42, .ref r1, .int l6] rfl ?_
    obtain ⟨v2, hv2, h⟩ := Option.bind_eq_some_iff.mp h
    refine rn_aI rfl hv2 ?_
    refine rn_steps 0 61 [.ref l0, .int l1, .int l2, .int l3, .long l4, .retAddr 1, .int l6] [.int v2, .int l6] rfl ?_
    refine rn_br (c := v2 < l6) rfl rfl decide_eq_true_iff (fun hb => ?_) (fun hb => ?_)
    · rw [if_pos hb] at h
      refine rn_steps 0 119 [.ref l0, .int l1, .int l2, .int l3, .long l4, .retAddr 1, .int l6] [] rfl ?_
      exact e221_119 d _ _ _ _ _ _ _ _ h
    · rw [if_neg hb] at h
      refine rn_steps 2 67 [.ref l0, .int l1, .int l2, .int l3, .long l4, .retAddr 1, .int l6] [.ref l0, .int l6] rfl ?_
      obtain ⟨r3, hr3, h⟩ := Option.bind_eq_some_iff.mp h
      refine rn_gR (c := 9) (f := 17) rfl rfl ⟨⟨rfl, rfl⟩, rfl⟩ hr3 ?_
      refine rn_steps 1 72 [.ref l0, .int l1, .int l2, .int l3, .long l4, .retAddr 1, .int l6] [.int 42, .ref r3, .int l6] rfl ?_
      obtain ⟨v4, hv4, h⟩ := Option.bind_eq_some_iff.mp h
      refine rn_aI rfl hv4 ?_
      refine rn_steps 3 76 [.ref l0, .int l1, .int l2, .int l3, .long l4, .retAddr 1, .int l6] [.int (l6 &&& (v4 ^^^ (-1)))] rfl ?_
      refine rn_br (c := (l6 &&& (v4 ^^^ (-1))) = 0) rfl rfl decide_eq_true_iff (fun hb => ?_) (fun hb => ?_)
      · rw [if_pos hb] at h
        refine rn_steps 2 85 [.ref l0, .int l1, .int l2, .int l3, .long l4, .retAddr 1, .int l6] [.int l6, .ref l0] rfl ?_
        obtain ⟨u10, hu10, h⟩ := Option.bind_eq_some_iff.mp h
        obtain ⟨y5, hy5, h⟩ := Option.bind_eq_some_iff.mp h
        refine rn_callV [.int l6] rfl rfl ⟨rfl, rfl⟩ hu10 rfl rfl (e195 (d + 2) hy5) ?_
        refine rn_steps 2 91 [.ref l0, .int l1, .int l2, .int l3, .long l4, .retAddr 1, .int l6] [.ref l0, .long l4] rfl ?_
        obtain ⟨r6, hr6, h⟩ := Option.bind_eq_some_iff.mp h
        refine rn_gR (c := 9) (f := 23) rfl rfl ⟨⟨rfl, rfl⟩, rfl⟩ hr6 ?_
        refine rn_steps 1 95 [.ref l0, .int l1, .int l2, .int l3, .long l4, .retAddr 1, .int l6] [.int l1, .ref r6, .long l4] rfl ?_
        obtain ⟨v7, hv7, h⟩ := Option.bind_eq_some_iff.mp h
        refine rn_aI rfl hv7 ?_
        refine rn_steps 1 97 [.ref l0, .int l1, .int l2, .int l3, .long l4, .retAddr 1, .int l6] [.int l2, .int v7, .long l4] rfl ?_
        refine rn_br (c := v7 < l2) rfl rfl decide_eq_true_iff (fun hb => ?_) (fun hb => ?_)
        · rw [if_pos hb] at h
          refine rn_steps 1 110 [.ref l0, .int l1, .int l2, .int l3, .long l4, .retAddr 1, .int l6] [.long 0, .long l4] rfl ?_
          exact e221_110 d _ ih _ _ _ _ _ _ _ _ _ _ _ h
        · rw [if_neg hb] at h
          refine rn_steps 2 103 [.ref l0, .int l1, .int l2, .int l3, .long l4, .retAddr 1, .int l6] [.int l6, .ref l0, .long l4] rfl ?_
          obtain ⟨u9, hu9, h⟩ := Option.bind_eq_some_iff.mp h
          obtain ⟨y8, hy8, h⟩ := Option.bind_eq_some_iff.mp h
          refine rn_callV [.int l6] rfl rfl ⟨rfl, rfl⟩ hu9 rfl rfl (e217 (d + 2) hy8) ?_
          refine rn_steps 1 110 [.ref l0, .int l1, .int l2, .int l3, .long l4, .retAddr 1, .int l6] [.long y8.1, .long l4] rfl ?_
          exact e221_110 d _ ih _ _ _ _ _ _ _ _ _ _ _ h
      · rw [if_neg hb] at h
        refine rn_steps 1 113 [.ref l0, .int l1, .int l2, .int l3, .long l4, .retAddr 1, .int l6] [] rfl ?_
        exact e221_113 d _ ih _ _ _ _ _ _ _ _ h
/-- LastAskedModel.odds(IIZ)J -/
def f221 (l0 : Nat) (l1 : Int32) (l2 : Int32) (l3 : Int32) (σ : xM) : Option (Int64 × xM) :=
  (pI σ l0 9 0 0).bind fun σ1 =>
  (cO σ1 l0 9).bind fun u12 =>
  (f186 l0 l1 σ1).bind fun y2 =>
  if y2.1 = 0 then
  (cO y2.2 l0 9).bind fun u11 =>
  (f151 l0 1 y2.2).bind fun y10 =>
  some (y10.1.toInt64, y10.2)
  else
  (f156 l2 0 594 y2.2).bind fun y3 =>
  if y3.1 = 0 then
  (cO y3.2 l0 9).bind fun u9 =>
  (f151 l0 2 y3.2).bind fun y8 =>
  some (y8.1.toInt64, y8.2)
  else
  (cO y3.2 l0 9).bind fun u7 =>
  (f197 l0 y3.2).bind fun y4 =>
  (cO y4 l0 9).bind fun u6 =>
  (f218 l0 y4).bind fun y5 =>
  f221_52 1100 l0 l1 l2 l3 0 0 y5
set_option maxRecDepth 20000 in
set_option maxHeartbeats 1000000 in
theorem e221 (d : Nat) {l0 : Nat} {l1 : Int32} {l2 : Int32} {l3 : Int32} {σ : xM} {y : Int64 × xM} (h : f221 l0 l1 l2 l3 σ = some y) : Rn (d + 5) 221 0 [.ref l0, .int l1, .int l2, .int l3, .retAddr 0, .retAddr 0, .retAddr 0] [] σ (some (.long y.1), y.2) := by
  unfold f221 at h
  refine rn_steps 2 2 [.ref l0, .int l1, .int l2, .int l3, .retAddr 0, .retAddr 0, .retAddr 0] [.int 0, .ref l0] rfl ?_
  obtain ⟨σ1, hσ1, h⟩ := Option.bind_eq_some_iff.mp h
  refine rn_pI (c := 9) (f := 0) rfl rfl ⟨⟨rfl, rfl⟩, rfl⟩ hσ1 ?_
  refine rn_steps 2 7 [.ref l0, .int l1, .int l2, .int l3, .retAddr 0, .retAddr 0, .retAddr 0] [.int l1, .ref l0] rfl ?_
  obtain ⟨u12, hu12, h⟩ := Option.bind_eq_some_iff.mp h
  obtain ⟨y2, hy2, h⟩ := Option.bind_eq_some_iff.mp h
  refine rn_callV [.int l1] rfl rfl ⟨rfl, rfl⟩ hu12 rfl rfl (e186 (d + 4) hy2) ?_
  refine rn_steps 0 10 [.ref l0, .int l1, .int l2, .int l3, .retAddr 0, .retAddr 0, .retAddr 0] [.int y2.1] rfl ?_
  refine rn_br (c := ¬ y2.1 = 0) rfl rfl decide_eq_true_iff (fun hb => ?_) (fun hb => ?_)
  · rw [if_neg hb] at h
    refine rn_steps 3 25 [.ref l0, .int l1, .int l2, .int l3, .retAddr 0, .retAddr 0, .retAddr 0] [.int 594, .int 0, .int l2] rfl ?_
    obtain ⟨y3, hy3, h⟩ := Option.bind_eq_some_iff.mp h
    refine rn_callS [.int l2, .int 0, .int 594] rfl rfl rfl ⟨rfl, rfl, rfl⟩ rfl rfl (e156 (d + 4) hy3) ?_
    refine rn_steps 0 28 [.ref l0, .int l1, .int l2, .int l3, .retAddr 0, .retAddr 0, .retAddr 0] [.int y3.1] rfl ?_
    refine rn_br (c := ¬ y3.1 = 0) rfl rfl decide_eq_true_iff (fun hb => ?_) (fun hb => ?_)
    · rw [if_neg hb] at h
      refine rn_steps 1 39 [.ref l0, .int l1, .int l2, .int l3, .retAddr 0, .retAddr 0, .retAddr 0] [.ref l0] rfl ?_
      obtain ⟨u7, hu7, h⟩ := Option.bind_eq_some_iff.mp h
      obtain ⟨y4, hy4, h⟩ := Option.bind_eq_some_iff.mp h
      refine rn_callV [] rfl rfl ⟨rfl, rfl⟩ hu7 rfl rfl (e197 d hy4) ?_
      refine rn_steps 1 43 [.ref l0, .int l1, .int l2, .int l3, .retAddr 0, .retAddr 0, .retAddr 0] [.ref l0] rfl ?_
      obtain ⟨u6, hu6, h⟩ := Option.bind_eq_some_iff.mp h
      obtain ⟨y5, hy5, h⟩ := Option.bind_eq_some_iff.mp h
      refine rn_callV [] rfl rfl ⟨rfl, rfl⟩ hu6 rfl rfl (e218 (d + 2) hy5) ?_
      refine rn_steps 4 52 [.ref l0, .int l1, .int l2, .int l3, .long 0, .retAddr 1, .int 0] [] rfl ?_
      exact e221_52 d 1100 _ _ _ _ _ _ _ _ h
    · rw [if_pos (Decidable.not_not.mp hb)] at h
      refine rn_steps 2 33 [.ref l0, .int l1, .int l2, .int l3, .retAddr 0, .retAddr 0, .retAddr 0] [.int 2, .ref l0] rfl ?_
      obtain ⟨u9, hu9, h⟩ := Option.bind_eq_some_iff.mp h
      obtain ⟨y8, hy8, h⟩ := Option.bind_eq_some_iff.mp h
      refine rn_callV [.int 2] rfl rfl ⟨rfl, rfl⟩ hu9 rfl rfl (e151 (d + 4) hy8) ?_
      refine rn_steps 1 37 [.ref l0, .int l1, .int l2, .int l3, .retAddr 0, .retAddr 0, .retAddr 0] [.long y8.1.toInt64] rfl ?_
      cases h
      exact rn_ret rfl rfl rfl
  · rw [if_pos (Decidable.not_not.mp hb)] at h
    refine rn_steps 2 15 [.ref l0, .int l1, .int l2, .int l3, .retAddr 0, .retAddr 0, .retAddr 0] [.int 1, .ref l0] rfl ?_
    obtain ⟨u11, hu11, h⟩ := Option.bind_eq_some_iff.mp h
    obtain ⟨y10, hy10, h⟩ := Option.bind_eq_some_iff.mp h
    refine rn_callV [.int 1] rfl rfl ⟨rfl, rfl⟩ hu11 rfl rfl (e151 (d + 4) hy10) ?_
    refine rn_steps 1 19 [.ref l0, .int l1, .int l2, .int l3, .retAddr 0, .retAddr 0, .retAddr 0] [.long y10.1.toInt64] rfl ?_
    cases h
    exact rn_ret rfl rfl rfl
def f222_99 (l0 : Nat) (l3 : Int32) (l4 : Int64) (σ : xM) : Option (Int64 × xM) :=
  (gJ σ l0 9 25).bind fun v1 =>
  (cO σ l0 9).bind fun u3 =>
  (f160 l0 l4 v1 l3 σ).bind fun y2 =>
  some (y2.1, y2.2)
set_option maxRecDepth 20000 in
set_option maxHeartbeats 1000000 in
theorem e222_99 (d : Nat) (l0 : Nat) (l3 : Int32) (l4 : Int64) (x1 x2 x6 : Value) (σ : xM) (y : Int64 × xM) (h : f222_99 l0 l3 l4 σ = some y) : Rn (d + 5) 222 99 [.ref l0, x1, x2, .int l3, .long l4, .retAddr 1, x6] [] σ (some (.long y.1), y.2) := by
  unfold f222_99 at h
  refine rn_steps 3 103 [.ref l0, x1, x2, .int l3, .long l4, .retAddr 1, x6] [.ref l0, .long l4, .ref l0] rfl ?_
  obtain ⟨v1, hv1, h⟩ := Option.bind_eq_some_iff.mp h
  refine rn_gJ (c := 9) (f := 25) rfl rfl ⟨⟨rfl, rfl⟩, rfl⟩ hv1 ?_
  refine rn_steps 1 107 [.ref l0, x1, x2, .int l3, .long l4, .retAddr 1, x6] [.int l3, .long v1, .long l4, .ref l0] rfl ?_
  obtain ⟨u3, hu3, h⟩ := Option.bind_eq_some_iff.mp h
  obtain ⟨y2, hy2, h⟩ := Option.bind_eq_some_iff.mp h
  refine rn_callV [.long l4, .long v1, .int l3] rfl rfl ⟨rfl, rfl⟩ hu3 rfl rfl (e160 (d + 3) hy2) ?_
  refine rn_steps 0 110 [.ref l0, x1, x2, .int l3, .long l4, .retAddr 1, x6] [.long y2.1] rfl ?_
  cases h
  exact rn_ret rfl rfl rfl
def f222_93 (K35 : Nat → Int32 → Int32 → Int32 → Int64 → Int32 → xM → Option (Int64 × xM)) (l0 : Nat) (l1 : Int32) (l2 : Int32) (l3 : Int32) (l4 : Int64) (l6 : Int32) (σ : xM) : Option (Int64 × xM) :=
  K35 l0 l1 l2 l3 l4 (l6 + 1) σ
set_option maxRecDepth 20000 in
set_option maxHeartbeats 1000000 in
theorem e222_93 (d : Nat) (K35 : Nat → Int32 → Int32 → Int32 → Int64 → Int32 → xM → Option (Int64 × xM)) (hK35 : ∀ (l0 : Nat) (l1 : Int32) (l2 : Int32) (l3 : Int32) (l4 : Int64) (l6 : Int32) (σ : xM) (y : Int64 × xM), K35 l0 l1 l2 l3 l4 l6 σ = some y → Rn (d + 5) 222 35 [.ref l0, .int l1, .int l2, .int l3, .long l4, .retAddr 1, .int l6] [] σ (some (.long y.1), y.2)) (l0 : Nat) (l1 : Int32) (l2 : Int32) (l3 : Int32) (l4 : Int64) (l6 : Int32) (σ : xM) (y : Int64 × xM) (h : f222_93 K35 l0 l1 l2 l3 l4 l6 σ = some y) : Rn (d + 5) 222 93 [.ref l0, .int l1, .int l2, .int l3, .long l4, .retAddr 1, .int l6] [] σ (some (.long y.1), y.2) := by
  unfold f222_93 at h
  refine rn_steps 2 35 [.ref l0, .int l1, .int l2, .int l3, .long l4, .retAddr 1, .int (l6 + 1)] [] rfl ?_
  exact hK35 _ _ _ _ _ _ _ _ h
def f222_35 : Nat → Nat → Int32 → Int32 → Int32 → Int64 → Int32 → xM → Option (Int64 × xM)
  | 0, _, _, _, _, _, _, _ => none
  | n + 1, l0, l1, l2, l3, l4, l6, σ =>
    (gR σ l0 9 17).bind fun r1 =>
    (aI σ r1 42).bind fun v2 =>
    if v2 < l6 then
    f222_99 l0 l3 l4 σ
    else
    (gR σ l0 9 17).bind fun r3 =>
    (aI σ r3 42).bind fun v4 =>
    if (l6 &&& (v4 ^^^ (-1))) = 0 then
    (f157 l6 l1 σ).bind fun y5 =>
    if y5.1 = 0 then
    f222_93 (f222_35 n) l0 l1 l2 l3 l4 l6 y5.2
    else
    (cO y5.2 l0 9).bind fun u9 =>
    (f194 l0 l1 l6 y5.2).bind fun y6 =>
    if y6.1 = l2 then
    (cO y6.2 l0 9).bind fun u8 =>
    (f217 l0 l6 y6.2).bind fun y7 =>
    f222_93 (f222_35 n) l0 l1 l2 l3 (l4 + y7.1) l6 y7.2
    else
    f222_93 (f222_35 n) l0 l1 l2 l3 l4 l6 y6.2
    else
    f222_93 (f222_35 n) l0 l1 l2 l3 l4 l6 σ
set_option maxRecDepth 20000 in
set_option maxHeartbeats 1000000 in
theorem e222_35 (d : Nat) : ∀ (n : Nat) (l0 : Nat) (l1 : Int32) (l2 : Int32) (l3 : Int32) (l4 : Int64) (l6 : Int32) (σ : xM) (y : Int64 × xM), f222_35 n l0 l1 l2 l3 l4 l6 σ = some y → Rn (d + 5) 222 35 [.ref l0, .int l1, .int l2, .int l3, .long l4, .retAddr 1, .int l6] [] σ (some (.long y.1), y.2) := by
  intro n
  induction n with
  | zero => intro l0 l1 l2 l3 l4 l6 σ y h; cases h
  | succ n ih =>
    intro l0 l1 l2 l3 l4 l6 σ y h
    unfold f222_35 at h
    refine rn_steps 2 38 [.ref l0, .int l1, .int l2, .int l3, .long l4, .retAddr 1, .int l6] [.ref l0, .int l6] rfl ?_
    obtain ⟨r1, hr1, h⟩ := Option.bind_eq_some_iff.mp h
    refine rn_gR (c := 9) (f := 17) rfl rfl ⟨⟨rfl, rfl⟩, rfl⟩ hr1 ?_
    refine rn_steps 1 43 [.ref l0, .int l1, .int l2, .int l3, .long l4, .retAddr 1, .int l6] [.int 42, .ref r1, .int l6] rfl ?_
    obtain ⟨v2, hv2, h⟩ := Option.bind_eq_some_iff.mp h
    refine rn_aI rfl hv2 ?_
    refine rn_steps 0 44 [.ref l0, .int l1, .int l2, .int l3, .long l4, .retAddr 1, .int l6] [.int v2, .int l6] rfl ?_
    refine rn_br (c := v2 < l6) rfl rfl decide_eq_true_iff (fun hb => ?_) (fun hb => ?_)
    · rw [if_pos hb] at h
      refine rn_steps 0 99 [.ref l0, .int l1, .int l2, .int l3, .long l4, .retAddr 1, .int l6] [] rfl ?_
      exact e222_99 d _ _ _ _ _ _ _ _ h
    · rw [if_neg hb] at h
      refine rn_steps 2 50 [.ref l0, .int l1, .int l2, .int l3, .long l4, .retAddr 1, .int l6] [.ref l0, .int l6] rfl ?_
      obtain ⟨r3, hr3, h⟩ := Option.bind_eq_some_iff.mp h
      refine rn_gR (c := 9) (f := 17) rfl rfl ⟨⟨rfl, rfl⟩, rfl⟩ hr3 ?_
      refine rn_steps 1 55 [.ref l0, .int l1, .int l2, .int l3, .long l4, .retAddr 1, .int l6] [.int 42, .ref r3, .int l6] rfl ?_
      obtain ⟨v4, hv4, h⟩ := Option.bind_eq_some_iff.mp h
      refine rn_aI rfl hv4 ?_
      refine rn_steps 3 59 [.ref l0, .int l1, .int l2, .int l3, .long l4, .retAddr 1, .int l6] [.int (l6 &&& (v4 ^^^ (-1)))] rfl ?_
      refine rn_br (c := ¬ (l6 &&& (v4 ^^^ (-1))) = 0) rfl rfl decide_eq_true_iff (fun hb => ?_) (fun hb => ?_)
      · rw [if_neg hb] at h
        refine rn_steps 0 93 [.ref l0, .int l1, .int l2, .int l3, .long l4, .retAddr 1, .int l6] [] rfl ?_
        exact e222_93 d _ ih _ _ _ _ _ _ _ _ h
      · rw [if_pos (Decidable.not_not.mp hb)] at h
        refine rn_steps 2 65 [.ref l0, .int l1, .int l2, .int l3, .long l4, .retAddr 1, .int l6] [.int l1, .int l6] rfl ?_
        obtain ⟨y5, hy5, h⟩ := Option.bind_eq_some_iff.mp h
        refine rn_callS [.int l6, .int l1] rfl rfl rfl ⟨rfl, rfl, rfl⟩ rfl rfl (e157 (d + 4) hy5) ?_
        refine rn_steps 0 68 [.ref l0, .int l1, .int l2, .int l3, .long l4, .retAddr 1, .int l6] [.int y5.1] rfl ?_
        refine rn_br (c := y5.1 = 0) rfl rfl decide_eq_true_iff (fun hb => ?_) (fun hb => ?_)
        · rw [if_pos hb] at h
          refine rn_steps 0 93 [.ref l0, .int l1, .int l2, .int l3, .long l4, .retAddr 1, .int l6] [] rfl ?_
          exact e222_93 d _ ih _ _ _ _ _ _ _ _ h
        · rw [if_neg hb] at h
          refine rn_steps 3 75 [.ref l0, .int l1, .int l2, .int l3, .long l4, .retAddr 1, .int l6] [.int l6, .int l1, .ref l0] rfl ?_
          obtain ⟨u9, hu9, h⟩ := Option.bind_eq_some_iff.mp h
          obtain ⟨y6, hy6, h⟩ := Option.bind_eq_some_iff.mp h
          refine rn_callV [.int l1, .int l6] rfl rfl ⟨rfl, rfl⟩ hu9 rfl rfl (e194 (d + 3) hy6) ?_
          refine rn_steps 1 79 [.ref l0, .int l1, .int l2, .int l3, .long l4, .retAddr 1, .int l6] [.int l2, .int y6.1] rfl ?_
          refine rn_br (c := ¬ y6.1 = l2) rfl rfl decide_eq_true_iff (fun hb => ?_) (fun hb => ?_)
          · rw [if_neg hb] at h
            refine rn_steps 0 93 [.ref l0, .int l1, .int l2, .int l3, .long l4, .retAddr 1, .int l6] [] rfl ?_
            exact e222_93 d _ ih _ _ _ _ _ _ _ _ h
          · rw [if_pos (Decidable.not_not.mp hb)] at h
            refine rn_steps 3 87 [.ref l0, .int l1, .int l2, .int l3, .long l4, .retAddr 1, .int l6] [.int l6, .ref l0, .long l4] rfl ?_
            obtain ⟨u8, hu8, h⟩ := Option.bind_eq_some_iff.mp h
            obtain ⟨y7, hy7, h⟩ := Option.bind_eq_some_iff.mp h
            refine rn_callV [.int l6] rfl rfl ⟨rfl, rfl⟩ hu8 rfl rfl (e217 (d + 2) hy7) ?_
            refine rn_steps 2 93 [.ref l0, .int l1, .int l2, .int l3, .long (l4 + y7.1), .retAddr 1, .int l6] [] rfl ?_
            exact e222_93 d _ ih _ _ _ _ _ _ _ _ h
/-- LastAskedModel.passes(IIZ)J -/
def f222 (l0 : Nat) (l1 : Int32) (l2 : Int32) (l3 : Int32) (σ : xM) : Option (Int64 × xM) :=
  (pI σ l0 9 0 0).bind fun σ1 =>
  (cO σ1 l0 9).bind fun u9 =>
  (f187 l0 l1 l2 σ1).bind fun y2 =>
  if y2.1 = 0 then
  (cO y2.2 l0 9).bind fun u8 =>
  (f151 l0 1 y2.2).bind fun y7 =>
  some (y7.1.toInt64, y7.2)
  else
  (cO y2.2 l0 9).bind fun u6 =>
  (f197 l0 y2.2).bind fun y3 =>
  (cO y3 l0 9).bind fun u5 =>
  (f218 l0 y3).bind fun y4 =>
  f222_35 1100 l0 l1 l2 l3 0 0 y4
set_option maxRecDepth 20000 in
set_option maxHeartbeats 1000000 in
theorem e222 (d : Nat) {l0 : Nat} {l1 : Int32} {l2 : Int32} {l3 : Int32} {σ : xM} {y : Int64 × xM} (h : f222 l0 l1 l2 l3 σ = some y) : Rn (d + 5) 222 0 [.ref l0, .int l1, .int l2, .int l3, .retAddr 0, .retAddr 0, .retAddr 0] [] σ (some (.long y.1), y.2) := by
  unfold f222 at h
  refine rn_steps 2 2 [.ref l0, .int l1, .int l2, .int l3, .retAddr 0, .retAddr 0, .retAddr 0] [.int 0, .ref l0] rfl ?_
  obtain ⟨σ1, hσ1, h⟩ := Option.bind_eq_some_iff.mp h
  refine rn_pI (c := 9) (f := 0) rfl rfl ⟨⟨rfl, rfl⟩, rfl⟩ hσ1 ?_
  refine rn_steps 3 8 [.ref l0, .int l1, .int l2, .int l3, .retAddr 0, .retAddr 0, .retAddr 0] [.int l2, .int l1, .ref l0] rfl ?_
  obtain ⟨u9, hu9, h⟩ := Option.bind_eq_some_iff.mp h
  obtain ⟨y2, hy2, h⟩ := Option.bind_eq_some_iff.mp h
  refine rn_callV [.int l1, .int l2] rfl rfl ⟨rfl, rfl⟩ hu9 rfl rfl (e187 (d + 3) hy2) ?_
  refine rn_steps 0 11 [.ref l0, .int l1, .int l2, .int l3, .retAddr 0, .retAddr 0, .retAddr 0] [.int y2.1] rfl ?_
  refine rn_br (c := ¬ y2.1 = 0) rfl rfl decide_eq_true_iff (fun hb => ?_) (fun hb => ?_)
  · rw [if_neg hb] at h
    refine rn_steps 1 22 [.ref l0, .int l1, .int l2, .int l3, .retAddr 0, .retAddr 0, .retAddr 0] [.ref l0] rfl ?_
    obtain ⟨u6, hu6, h⟩ := Option.bind_eq_some_iff.mp h
    obtain ⟨y3, hy3, h⟩ := Option.bind_eq_some_iff.mp h
    refine rn_callV [] rfl rfl ⟨rfl, rfl⟩ hu6 rfl rfl (e197 d hy3) ?_
    refine rn_steps 1 26 [.ref l0, .int l1, .int l2, .int l3, .retAddr 0, .retAddr 0, .retAddr 0] [.ref l0] rfl ?_
    obtain ⟨u5, hu5, h⟩ := Option.bind_eq_some_iff.mp h
    obtain ⟨y4, hy4, h⟩ := Option.bind_eq_some_iff.mp h
    refine rn_callV [] rfl rfl ⟨rfl, rfl⟩ hu5 rfl rfl (e218 (d + 2) hy4) ?_
    refine rn_steps 4 35 [.ref l0, .int l1, .int l2, .int l3, .long 0, .retAddr 1, .int 0] [] rfl ?_
    exact e222_35 d 1100 _ _ _ _ _ _ _ _ h
  · rw [if_pos (Decidable.not_not.mp hb)] at h
    refine rn_steps 2 16 [.ref l0, .int l1, .int l2, .int l3, .retAddr 0, .retAddr 0, .retAddr 0] [.int 1, .ref l0] rfl ?_
    obtain ⟨u8, hu8, h⟩ := Option.bind_eq_some_iff.mp h
    obtain ⟨y7, hy7, h⟩ := Option.bind_eq_some_iff.mp h
    refine rn_callV [.int 1] rfl rfl ⟨rfl, rfl⟩ hu8 rfl rfl (e151 (d + 4) hy7) ?_
    refine rn_steps 1 20 [.ref l0, .int l1, .int l2, .int l3, .retAddr 0, .retAddr 0, .retAddr 0] [.long y7.1.toInt64] rfl ?_
    cases h
    exact rn_ret rfl rfl rfl
def f223_89 (l0 : Nat) (l1 : Int32) (l2 : Int64) (σ : xM) : Option (Int64 × xM) :=
  (gJ σ l0 9 25).bind fun v1 =>
  (cO σ l0 9).bind fun u3 =>
  (f160 l0 l2 v1 l1 σ).bind fun y2 =>
  some (y2.1, y2.2)
set_option maxRecDepth 20000 in
set_option maxHeartbeats 1000000 in
theorem e223_89 (d : Nat) (l0 : Nat) (l1 : Int32) (l2 : Int64) (x4 : Value) (σ : xM) (y : Int64 × xM) (h : f223_89 l0 l1 l2 σ = some y) : Rn (d + 5) 223 89 [.ref l0, .int l1, .long l2, .retAddr 1, x4] [] σ (some (.long y.1), y.2) := by
  unfold f223_89 at h
  refine rn_steps 3 92 [.ref l0, .int l1, .long l2, .retAddr 1, x4] [.ref l0, .long l2, .ref l0] rfl ?_
  obtain ⟨v1, hv1, h⟩ := Option.bind_eq_some_iff.mp h
  refine rn_gJ (c := 9) (f := 25) rfl rfl ⟨⟨rfl, rfl⟩, rfl⟩ hv1 ?_
  refine rn_steps 1 96 [.ref l0, .int l1, .long l2, .retAddr 1, x4] [.int l1, .long v1, .long l2, .ref l0] rfl ?_
  obtain ⟨u3, hu3, h⟩ := Option.bind_eq_some_iff.mp h
  obtain ⟨y2, hy2, h⟩ := Option.bind_eq_some_iff.mp h
  refine rn_callV [.long l2, .long v1, .int l1] rfl rfl ⟨rfl, rfl⟩ hu3 rfl rfl (e160 (d + 3) hy2) ?_
  refine rn_steps 0 99 [.ref l0, .int l1, .long l2, .retAddr 1, x4] [.long y2.1] rfl ?_
  cases h
  exact rn_ret rfl rfl rfl
def f223_83 (K32 : Nat → Int32 → Int64 → Int32 → xM → Option (Int64 × xM)) (l0 : Nat) (l1 : Int32) (l2 : Int64) (l4 : Int32) (σ : xM) : Option (Int64 × xM) :=
  K32 l0 l1 l2 (l4 + 1) σ
set_option maxRecDepth 20000 in
set_option maxHeartbeats 1000000 in
theorem e223_83 (d : Nat) (K32 : Nat → Int32 → Int64 → Int32 → xM → Option (Int64 × xM)) (hK32 : ∀ (l0 : Nat) (l1 : Int32) (l2 : Int64) (l4 : Int32) (σ : xM) (y : Int64 × xM), K32 l0 l1 l2 l4 σ = some y → Rn (d + 5) 223 32 [.ref l0, .int l1, .long l2, .retAddr 1, .int l4] [] σ (some (.long y.1), y.2)) (l0 : Nat) (l1 : Int32) (l2 : Int64) (l4 : Int32) (σ : xM) (y : Int64 × xM) (h : f223_83 K32 l0 l1 l2 l4 σ = some y) : Rn (d + 5) 223 83 [.ref l0, .int l1, .long l2, .retAddr 1, .int l4] [] σ (some (.long y.1), y.2) := by
  unfold f223_83 at h
  refine rn_steps 2 32 [.ref l0, .int l1, .long l2, .retAddr 1, .int (l4 + 1)] [] rfl ?_
  exact hK32 _ _ _ _ _ _ h
def f223_32 : Nat → Nat → Int32 → Int64 → Int32 → xM → Option (Int64 × xM)
  | 0, _, _, _, _, _ => none
  | n + 1, l0, l1, l2, l4, σ =>
    (gR σ l0 9 17).bind fun r1 =>
    (aI σ r1 42).bind fun v2 =>
    if v2 < l4 then
    f223_89 l0 l1 l2 σ
    else
    (gR σ l0 9 17).bind fun r3 =>
    (aI σ r3 42).bind fun v4 =>
    if (l4 &&& (v4 ^^^ (-1))) = 0 then
    (cO σ l0 9).bind fun u9 =>
    (f195 l0 l4 σ).bind fun y5 =>
    (cO y5 l0 9).bind fun u8 =>
    (f217 l0 l4 y5).bind fun y6 =>
    (gI y6.2 l0 9 24).bind fun v7 =>
    f223_83 (f223_32 n) l0 l1 (l2 + (y6.1 * v7.toInt64)) l4 y6.2
    else
    f223_83 (f223_32 n) l0 l1 l2 l4 σ
set_option maxRecDepth 20000 in
set_option maxHeartbeats 1000000 in
theorem e223_32 (d : Nat) : ∀ (n : Nat) (l0 : Nat) (l1 : Int32) (l2 : Int64) (l4 : Int32) (σ : xM) (y : Int64 × xM), f223_32 n l0 l1 l2 l4 σ = some y → Rn (d + 5) 223 32 [.ref l0, .int l1, .long l2, .retAddr 1, .int l4] [] σ (some (.long y.1), y.2) := by
  intro n
  induction n with
  | zero => intro l0 l1 l2 l4 σ y h; cases h
  | succ n ih =>
    intro l0 l1 l2 l4 σ y h
    unfold f223_32 at h
    refine rn_steps 2 35 [.ref l0, .int l1, .long l2, .retAddr 1, .int l4] [.ref l0, .int l4] rfl ?_
    obtain ⟨r1, hr1, h⟩ := Option.bind_eq_some_iff.mp h
    refine rn_gR (c := 9) (f := 17) rfl rfl ⟨⟨rfl, rfl⟩, rfl⟩ hr1 ?_
    refine rn_steps 1 40 [.ref l0, .int l1, .long l2, .retAddr 1, .int l4] [.int 42, .ref r1, .int l4] rfl ?_
    obtain ⟨v2, hv2, h⟩ := Option.bind_eq_some_iff.mp h
    refine rn_aI rfl hv2 ?_
    refine rn_steps 0 41 [.ref l0, .int l1, .long l2, .retAddr 1, .int l4] [.int v2, .int l4] rfl ?_
    refine rn_br (c := v2 < l4) rfl rfl decide_eq_true_iff (fun hb => ?_) (fun hb => ?_)
    · rw [if_pos hb] at h
      refine rn_steps 0 89 [.ref l0, .int l1, .long l2, .retAddr 1, .int l4] [] rfl ?_
      exact e223_89 d _ _ _ _ _ _ h
    · rw [if_neg hb] at h
      refine rn_steps 2 47 [.ref l0, .int l1, .long l2, .retAddr 1, .int l4] [.ref l0, .int l4] rfl ?_
      obtain ⟨r3, hr3, h⟩ := Option.bind_eq_some_iff.mp h
      refine rn_gR (c := 9) (f := 17) rfl rfl ⟨⟨rfl, rfl⟩, rfl⟩ hr3 ?_
      refine rn_steps 1 52 [.ref l0, .int l1, .long l2, .retAddr 1, .int l4] [.int 42, .ref r3, .int l4] rfl ?_
      obtain ⟨v4, hv4, h⟩ := Option.bind_eq_some_iff.mp h
      refine rn_aI rfl hv4 ?_
      refine rn_steps 3 56 [.ref l0, .int l1, .long l2, .retAddr 1, .int l4] [.int (l4 &&& (v4 ^^^ (-1)))] rfl ?_
      refine rn_br (c := (l4 &&& (v4 ^^^ (-1))) = 0) rfl rfl decide_eq_true_iff (fun hb => ?_) (fun hb => ?_)
      · rw [if_pos hb] at h
        refine rn_steps 2 65 [.ref l0, .int l1, .long l2, .retAddr 1, .int l4] [.int l4, .ref l0] rfl ?_
        obtain ⟨u9, hu9, h⟩ := Option.bind_eq_some_iff.mp h
        obtain ⟨y5, hy5, h⟩ := Option.bind_eq_some_iff.mp h
        refine rn_callV [.int l4] rfl rfl ⟨rfl, rfl⟩ hu9 rfl rfl (e195 (d + 2) hy5) ?_
        refine rn_steps 3 72 [.ref l0, .int l1, .long l2, .retAddr 1, .int l4] [.int l4, .ref l0, .long l2] rfl ?_
        obtain ⟨u8, hu8, h⟩ := Option.bind_eq_some_iff.mp h
        obtain ⟨y6, hy6, h⟩ := Option.bind_eq_some_iff.mp h
        refine rn_callV [.int l4] rfl rfl ⟨rfl, rfl⟩ hu8 rfl rfl (e217 (d + 2) hy6) ?_
        refine rn_steps 1 76 [.ref l0, .int l1, .long l2, .retAddr 1, .int l4] [.ref l0, .long y6.1, .long l2] rfl ?_
        obtain ⟨v7, hv7, h⟩ := Option.bind_eq_some_iff.mp h
        refine rn_gI (c := 9) (f := 24) rfl rfl ⟨⟨rfl, rfl⟩, Or.inl rfl⟩ hv7 ?_
        refine rn_steps 4 83 [.ref l0, .int l1, .long (l2 + (y6.1 * v7.toInt64)), .retAddr 1, .int l4] [] rfl ?_
        exact e223_83 d _ ih _ _ _ _ _ _ h
      · rw [if_neg hb] at h
        refine rn_steps 1 83 [.ref l0, .int l1, .long l2, .retAddr 1, .int l4] [] rfl ?_
        exact e223_83 d _ ih _ _ _ _ _ _ h
/-- LastAskedModel.catMean(Z)J -/
def f223 (l0 : Nat) (l1 : Int32) (σ : xM) : Option (Int64 × xM) :=
  (pI σ l0 9 0 0).bind fun σ1 =>
  (gQ σ1 l0 9 3).bind fun q2 =>
  match q2 with
  | none =>
  (cO σ1 l0 9).bind fun u5 =>
  (f151 l0 1 σ1).bind fun y4 =>
  some (y4.1.toInt64, y4.2)
  | some b3 =>
  (cO σ1 l0 9).bind fun u9 =>
  (f197 l0 σ1).bind fun y6 =>
  (cO y6 l0 9).bind fun u8 =>
  (f218 l0 y6).bind fun y7 =>
  f223_32 1100 l0 l1 0 0 y7
set_option maxRecDepth 20000 in
set_option maxHeartbeats 1000000 in
theorem e223 (d : Nat) {l0 : Nat} {l1 : Int32} {σ : xM} {y : Int64 × xM} (h : f223 l0 l1 σ = some y) : Rn (d + 5) 223 0 [.ref l0, .int l1, .retAddr 0, .retAddr 0, .retAddr 0] [] σ (some (.long y.1), y.2) := by
  unfold f223 at h
  refine rn_steps 2 2 [.ref l0, .int l1, .retAddr 0, .retAddr 0, .retAddr 0] [.int 0, .ref l0] rfl ?_
  obtain ⟨σ1, hσ1, h⟩ := Option.bind_eq_some_iff.mp h
  refine rn_pI (c := 9) (f := 0) rfl rfl ⟨⟨rfl, rfl⟩, rfl⟩ hσ1 ?_
  refine rn_steps 1 6 [.ref l0, .int l1, .retAddr 0, .retAddr 0, .retAddr 0] [.ref l0] rfl ?_
  obtain ⟨q2, hq2, h⟩ := Option.bind_eq_some_iff.mp h
  refine rn_gQ (c := 9) (f := 3) rfl rfl ⟨⟨rfl, rfl⟩, rfl⟩ hq2 ?_
  cases q2 with
  | none =>
    dsimp only at h
    refine rn_steps 3 14 [.ref l0, .int l1, .retAddr 0, .retAddr 0, .retAddr 0] [.int 1, .ref l0] rfl ?_
    obtain ⟨u5, hu5, h⟩ := Option.bind_eq_some_iff.mp h
    obtain ⟨y4, hy4, h⟩ := Option.bind_eq_some_iff.mp h
    refine rn_callV [.int 1] rfl rfl ⟨rfl, rfl⟩ hu5 rfl rfl (e151 (d + 4) hy4) ?_
    refine rn_steps 1 18 [.ref l0, .int l1, .retAddr 0, .retAddr 0, .retAddr 0] [.long y4.1.toInt64] rfl ?_
    cases h
    exact rn_ret rfl rfl rfl
  | some b3 =>
    dsimp only at h
    refine rn_steps 2 20 [.ref l0, .int l1, .retAddr 0, .retAddr 0, .retAddr 0] [.ref l0] rfl ?_
    obtain ⟨u9, hu9, h⟩ := Option.bind_eq_some_iff.mp h
    obtain ⟨y6, hy6, h⟩ := Option.bind_eq_some_iff.mp h
    refine rn_callV [] rfl rfl ⟨rfl, rfl⟩ hu9 rfl rfl (e197 d hy6) ?_
    refine rn_steps 1 24 [.ref l0, .int l1, .retAddr 0, .retAddr 0, .retAddr 0] [.ref l0] rfl ?_
    obtain ⟨u8, hu8, h⟩ := Option.bind_eq_some_iff.mp h
    obtain ⟨y7, hy7, h⟩ := Option.bind_eq_some_iff.mp h
    refine rn_callV [] rfl rfl ⟨rfl, rfl⟩ hu8 rfl rfl (e218 (d + 2) hy7) ?_
    refine rn_steps 4 32 [.ref l0, .int l1, .long 0, .retAddr 1, .int 0] [] rfl ?_
    exact e223_32 d 1100 _ _ _ _ _ _ h
def f224_64 (l0 : Nat) (l1 : Int32) (l2 : Int32) (s0 : Int32) (σ : xM) : Option xM :=
  (gR σ l0 9 17).bind fun r1 =>
  (aI σ r1 l2).bind fun v2 =>
  (tI σ r1 l2 (v2 - s0)).bind fun σ3 =>
  (gR σ3 l0 9 17).bind fun r4 =>
  (aI σ3 r4 l1).bind fun v5 =>
  (tI σ3 r4 l1 (v5 + s0)).bind fun σ6 =>
  some σ6
set_option maxRecDepth 20000 in
set_option maxHeartbeats 1000000 in
theorem e224_64 (d : Nat) (l0 : Nat) (l1 : Int32) (l2 : Int32) (s0 : Int32) (x3 : Value) (σ : xM) (y : xM) (h : f224_64 l0 l1 l2 s0 σ = some y) : Rn (d + 0) 224 64 [.ref l0, .int l1, .int l2, x3] [.int s0] σ (none, y) := by
  unfold f224_64 at h
  refine rn_steps 2 66 [.ref l0, .int l1, .int l2, .int s0] [.ref l0] rfl ?_
  obtain ⟨r1, hr1, h⟩ := Option.bind_eq_some_iff.mp h
  refine rn_gR (c := 9) (f := 17) rfl rfl ⟨⟨rfl, rfl⟩, rfl⟩ hr1 ?_
  refine rn_steps 2 71 [.ref l0, .int l1, .int l2, .int s0] [.int l2, .ref r1, .int l2, .ref r1] rfl ?_
  obtain ⟨v2, hv2, h⟩ := Option.bind_eq_some_iff.mp h
  refine rn_aI rfl hv2 ?_
  refine rn_steps 2 74 [.ref l0, .int l1, .int l2, .int s0] [.int (v2 - s0), .int l2, .ref r1] rfl ?_
  obtain ⟨σ3, hσ3, h⟩ := Option.bind_eq_some_iff.mp h
  refine rn_tI rfl hσ3 ?_
  refine rn_steps 1 76 [.ref l0, .int l1, .int l2, .int s0] [.ref l0] rfl ?_
  obtain ⟨r4, hr4, h⟩ := Option.bind_eq_some_iff.mp h
  refine rn_gR (c := 9) (f := 17) rfl rfl ⟨⟨rfl, rfl⟩, rfl⟩ hr4 ?_
  refine rn_steps 2 81 [.ref l0, .int l1, .int l2, .int s0] [.int l1, .ref r4, .int l1, .ref r4] rfl ?_
  obtain ⟨v5, hv5, h⟩ := Option.bind_eq_some_iff.mp h
  refine rn_aI rfl hv5 ?_
  refine rn_steps 2 84 [.ref l0, .int l1, .int l2, .int s0] [.int (v5 + s0), .int l1, .ref r4] rfl ?_
  obtain ⟨σ6, hσ6, h⟩ := Option.bind_eq_some_iff.mp h
  refine rn_tI rfl hσ6 ?_
  refine rn_steps 0 85 [.ref l0, .int l1, .int l2, .int s0] [] rfl ?_
  cases h
  exact rn_ret rfl rfl rfl
/-- LastAskedModel.asks(II)V -/
def f224 (l0 : Nat) (l1 : Int32) (l2 : Int32) (σ : xM) : Option xM :=
  (gR σ l0 9 17).bind fun r1 =>
  (aI σ r1 44).bind fun v2 =>
  (tI σ r1 44 (v2 + 1)).bind fun σ3 =>
  (gR σ3 l0 9 17).bind fun r4 =>
  (gR σ3 l0 9 17).bind fun r5 =>
  (aI σ3 r5 44).bind fun v6 =>
  (tI σ3 r4 ((6 + (6 * l1)) + l2) v6).bind fun σ7 =>
  (gR σ7 l0 9 17).bind fun r8 =>
  (aI σ7 r8 l2).bind fun v9 =>
  (gR σ7 l0 9 3).bind fun r10 =>
  (gI σ7 r10 8 1).bind fun v11 =>
  if v11 ≤ v9 then
  (gR σ7 l0 9 3).bind fun r12 =>
  (gI σ7 r12 8 1).bind fun v13 =>
  f224_64 l0 l1 l2 v13 σ7
  else
  (gR σ7 l0 9 17).bind fun r14 =>
  (aI σ7 r14 l2).bind fun v15 =>
  f224_64 l0 l1 l2 v15 σ7
set_option maxRecDepth 20000 in
set_option maxHeartbeats 1000000 in
theorem e224 (d : Nat) {l0 : Nat} {l1 : Int32} {l2 : Int32} {σ : xM} {y : xM} (h : f224 l0 l1 l2 σ = some y) : Rn (d + 0) 224 0 [.ref l0, .int l1, .int l2, .retAddr 0] [] σ (none, y) := by
  unfold f224 at h
  refine rn_steps 1 1 [.ref l0, .int l1, .int l2, .retAddr 0] [.ref l0] rfl ?_
  obtain ⟨r1, hr1, h⟩ := Option.bind_eq_some_iff.mp h
  refine rn_gR (c := 9) (f := 17) rfl rfl ⟨⟨rfl, rfl⟩, rfl⟩ hr1 ?_
  refine rn_steps 2 7 [.ref l0, .int l1, .int l2, .retAddr 0] [.int 44, .ref r1, .int 44, .ref r1] rfl ?_
  obtain ⟨v2, hv2, h⟩ := Option.bind_eq_some_iff.mp h
  refine rn_aI rfl hv2 ?_
  refine rn_steps 2 10 [.ref l0, .int l1, .int l2, .retAddr 0] [.int (v2 + 1), .int 44, .ref r1] rfl ?_
  obtain ⟨σ3, hσ3, h⟩ := Option.bind_eq_some_iff.mp h
  refine rn_tI rfl hσ3 ?_
  refine rn_steps 1 12 [.ref l0, .int l1, .int l2, .retAddr 0] [.ref l0] rfl ?_
  obtain ⟨r4, hr4, h⟩ := Option.bind_eq_some_iff.mp h
  refine rn_gR (c := 9) (f := 17) rfl rfl ⟨⟨rfl, rfl⟩, rfl⟩ hr4 ?_
  refine rn_steps 8 25 [.ref l0, .int l1, .int l2, .retAddr 0] [.ref l0, .int ((6 + (6 * l1)) + l2), .ref r4] rfl ?_
  obtain ⟨r5, hr5, h⟩ := Option.bind_eq_some_iff.mp h
  refine rn_gR (c := 9) (f := 17) rfl rfl ⟨⟨rfl, rfl⟩, rfl⟩ hr5 ?_
  refine rn_steps 1 30 [.ref l0, .int l1, .int l2, .retAddr 0] [.int 44, .ref r5, .int ((6 + (6 * l1)) + l2), .ref r4] rfl ?_
  obtain ⟨v6, hv6, h⟩ := Option.bind_eq_some_iff.mp h
  refine rn_aI rfl hv6 ?_
  refine rn_steps 0 31 [.ref l0, .int l1, .int l2, .retAddr 0] [.int v6, .int ((6 + (6 * l1)) + l2), .ref r4] rfl ?_
  obtain ⟨σ7, hσ7, h⟩ := Option.bind_eq_some_iff.mp h
  refine rn_tI rfl hσ7 ?_
  refine rn_steps 1 33 [.ref l0, .int l1, .int l2, .retAddr 0] [.ref l0] rfl ?_
  obtain ⟨r8, hr8, h⟩ := Option.bind_eq_some_iff.mp h
  refine rn_gR (c := 9) (f := 17) rfl rfl ⟨⟨rfl, rfl⟩, rfl⟩ hr8 ?_
  refine rn_steps 1 37 [.ref l0, .int l1, .int l2, .retAddr 0] [.int l2, .ref r8] rfl ?_
  obtain ⟨v9, hv9, h⟩ := Option.bind_eq_some_iff.mp h
  refine rn_aI rfl hv9 ?_
  refine rn_steps 1 39 [.ref l0, .int l1, .int l2, .retAddr 0] [.ref l0, .int v9] rfl ?_
  obtain ⟨r10, hr10, h⟩ := Option.bind_eq_some_iff.mp h
  refine rn_gR (c := 9) (f := 3) rfl rfl ⟨⟨rfl, rfl⟩, rfl⟩ hr10 ?_
  refine rn_steps 0 42 [.ref l0, .int l1, .int l2, .retAddr 0] [.ref r10, .int v9] rfl ?_
  obtain ⟨v11, hv11, h⟩ := Option.bind_eq_some_iff.mp h
  refine rn_gI (c := 8) (f := 1) rfl rfl ⟨⟨rfl, rfl⟩, Or.inl rfl⟩ hv11 ?_
  refine rn_steps 0 45 [.ref l0, .int l1, .int l2, .retAddr 0] [.int v11, .int v9] rfl ?_
  refine rn_br (c := v11 ≤ v9) rfl rfl decide_eq_true_iff (fun hb => ?_) (fun hb => ?_)
  · rw [if_pos hb] at h
    refine rn_steps 1 58 [.ref l0, .int l1, .int l2, .retAddr 0] [.ref l0] rfl ?_
    obtain ⟨r12, hr12, h⟩ := Option.bind_eq_some_iff.mp h
    refine rn_gR (c := 9) (f := 3) rfl rfl ⟨⟨rfl, rfl⟩, rfl⟩ hr12 ?_
    refine rn_steps 0 61 [.ref l0, .int l1, .int l2, .retAddr 0] [.ref r12] rfl ?_
    obtain ⟨v13, hv13, h⟩ := Option.bind_eq_some_iff.mp h
    refine rn_gI (c := 8) (f := 1) rfl rfl ⟨⟨rfl, rfl⟩, Or.inl rfl⟩ hv13 ?_
    refine rn_steps 0 64 [.ref l0, .int l1, .int l2, .retAddr 0] [.int v13] rfl ?_
    exact e224_64 d _ _ _ _ _ _ _ h
  · rw [if_neg hb] at h
    refine rn_steps 1 49 [.ref l0, .int l1, .int l2, .retAddr 0] [.ref l0] rfl ?_
    obtain ⟨r14, hr14, h⟩ := Option.bind_eq_some_iff.mp h
    refine rn_gR (c := 9) (f := 17) rfl rfl ⟨⟨rfl, rfl⟩, rfl⟩ hr14 ?_
    refine rn_steps 1 53 [.ref l0, .int l1, .int l2, .retAddr 0] [.int l2, .ref r14] rfl ?_
    obtain ⟨v15, hv15, h⟩ := Option.bind_eq_some_iff.mp h
    refine rn_aI rfl hv15 ?_
    refine rn_steps 1 64 [.ref l0, .int l1, .int l2, .retAddr 0] [.int v15] rfl ?_
    exact e224_64 d _ _ _ _ _ _ _ h
def f225_197 (l6 : Int32) (σ : xM) : Option (Int32 × xM) :=
  some (l6, σ)
set_option maxRecDepth 20000 in
set_option maxHeartbeats 1000000 in
theorem e225_197 (d : Nat) (l6 : Int32) (x0 x1 x2 x3 x4 x5 x7 x8 x9 x10 x11 x12 : Value) (σ : xM) (y : Int32 × xM) (h : f225_197 l6 σ = some y) : Rn (d + 5) 225 197 [x0, x1, x2, x3, x4, x5, .int l6, x7, x8, x9, x10, x11, x12] [] σ (some (.int y.1), y.2) := by
  unfold f225_197 at h
  refine rn_steps 1 199 [x0, x1, x2, x3, x4, x5, .int l6, x7, x8, x9, x10, x11, x12] [.int l6] rfl ?_
  cases h
  exact rn_ret rfl rfl rfl
def f225_191 (K54 : Nat → Int32 → Int32 → Int32 → Int32 → Int32 → Int32 → Int32 → xM → Option (Int32 × xM)) (l0 : Nat) (l1 : Int32) (l2 : Int32) (l3 : Int32) (l4 : Int32) (l5 : Int32) (l6 : Int32) (l7 : Int32) (σ : xM) : Option (Int32 × xM) :=
  K54 l0 l1 l2 l3 l4 l5 l6 (l7 + 1) σ
set_option maxRecDepth 20000 in
set_option maxHeartbeats 1000000 in
theorem e225_191 (d : Nat) (K54 : Nat → Int32 → Int32 → Int32 → Int32 → Int32 → Int32 → Int32 → xM → Option (Int32 × xM)) (hK54 : ∀ (l0 : Nat) (l1 : Int32) (l2 : Int32) (l3 : Int32) (l4 : Int32) (l5 : Int32) (l6 : Int32) (l7 : Int32) (x8 x9 x10 x11 x12 : Value) (σ : xM) (y : Int32 × xM), K54 l0 l1 l2 l3 l4 l5 l6 l7 σ = some y → Rn (d + 5) 225 54 [.ref l0, .int l1, .int l2, .int l3, .int l4, .int l5, .int l6, .int l7, x8, x9, x10, x11, x12] [] σ (some (.int y.1), y.2)) (l0 : Nat) (l1 : Int32) (l2 : Int32) (l3 : Int32) (l4 : Int32) (l5 : Int32) (l6 : Int32) (l7 : Int32) (x8 x9 x10 x11 x12 : Value) (σ : xM) (y : Int32 × xM) (h : f225_191 K54 l0 l1 l2 l3 l4 l5 l6 l7 σ = some y) : Rn (d + 5) 225 191 [.ref l0, .int l1, .int l2, .int l3, .int l4, .int l5, .int l6, .int l7, x8, x9, x10, x11, x12] [] σ (some (.int y.1), y.2) := by
  unfold f225_191 at h
  refine rn_steps 2 54 [.ref l0, .int l1, .int l2, .int l3, .int l4, .int l5, .int l6, .int (l7 + 1), x8, x9, x10, x11, x12] [] rfl ?_
  exact hK54 _ _ _ _ _ _ _ _ _ _ _ _ _ _ _ h
def f225_153 (K54 : Nat → Int32 → Int32 → Int32 → Int32 → Int32 → Int32 → Int32 → xM → Option (Int32 × xM)) (l0 : Nat) (l1 : Int32) (l2 : Int32) (l3 : Int32) (l4 : Int32) (l5 : Int32) (l6 : Int32) (l7 : Int32) (l9 : Int32) (l10 : Int32) (σ : xM) : Option (Int32 × xM) :=
  if l10 = 0 then
  f225_191 K54 l0 l1 l2 l3 l4 l5 l6 l7 σ
  else
  (cO σ l0 9).bind fun u4 =>
  (f219 l0 l1 σ).bind fun y1 =>
  (gJ y1.2 l0 9 26).bind fun v2 =>
  if 0 < (lg_cmp y1.1 v2) then
  (pJ y1.2 l0 9 26 y1.1).bind fun σ3 =>
  f225_191 K54 l0 l1 l2 l3 l4 l5 l9 l7 σ3
  else
  f225_191 K54 l0 l1 l2 l3 l4 l5 l6 l7 y1.2
set_option maxRecDepth 20000 in
set_option maxHeartbeats 1000000 in
theorem e225_153 (d : Nat) (K54 : Nat → Int32 → Int32 → Int32 → Int32 → Int32 → Int32 → Int32 → xM → Option (Int32 × xM)) (hK54 : ∀ (l0 : Nat) (l1 : Int32) (l2 : Int32) (l3 : Int32) (l4 : Int32) (l5 : Int32) (l6 : Int32) (l7 : Int32) (x8 x9 x10 x11 x12 : Value) (σ : xM) (y : Int32 × xM), K54 l0 l1 l2 l3 l4 l5 l6 l7 σ = some y → Rn (d + 5) 225 54 [.ref l0, .int l1, .int l2, .int l3, .int l4, .int l5, .int l6, .int l7, x8, x9, x10, x11, x12] [] σ (some (.int y.1), y.2)) (l0 : Nat) (l1 : Int32) (l2 : Int32) (l3 : Int32) (l4 : Int32) (l5 : Int32) (l6 : Int32) (l7 : Int32) (l9 : Int32) (l10 : Int32) (x8 x11 x12 : Value) (σ : xM) (y : Int32 × xM) (h : f225_153 K54 l0 l1 l2 l3 l4 l5 l6 l7 l9 l10 σ = some y) : Rn (d + 5) 225 153 [.ref l0, .int l1, .int l2, .int l3, .int l4, .int l5, .int l6, .int l7, x8, .int l9, .int l10, x11, x12] [] σ (some (.int y.1), y.2) := by
  unfold f225_153 at h
  refine rn_steps 1 155 [.ref l0, .int l1, .int l2, .int l3, .int l4, .int l5, .int l6, .int l7, x8, .int l9, .int l10, x11, x12] [.int l10] rfl ?_
  refine rn_br (c := ¬ l10 = 0) rfl rfl decide_eq_true_iff (fun hb => ?_) (fun hb => ?_)
  · rw [if_neg hb] at h
    refine rn_steps 2 163 [.ref l0, .int l1, .int l2, .int l3, .int l4, .int l5, .int l6, .int l7, x8, .int l9, .int l10, x11, x12] [.int l1, .ref l0] rfl ?_
    obtain ⟨u4, hu4, h⟩ := Option.bind_eq_some_iff.mp h
    obtain ⟨y1, hy1, h⟩ := Option.bind_eq_some_iff.mp h
    refine rn_callV [.int l1] rfl rfl ⟨rfl, rfl⟩ hu4 rfl rfl (e219 d hy1) ?_
    refine rn_steps 3 171 [.ref l0, .int l1, .int l2, .int l3, .int l4, .int l5, .int l6, .int l7, x8, .int l9, .int l10, .long y1.1, .retAddr 1] [.ref l0, .long y1.1] rfl ?_
    obtain ⟨v2, hv2, h⟩ := Option.bind_eq_some_iff.mp h
    refine rn_gJ (c := 9) (f := 26) rfl rfl ⟨⟨rfl, rfl⟩, rfl⟩ hv2 ?_
    refine rn_steps 1 175 [.ref l0, .int l1, .int l2, .int l3, .int l4, .int l5, .int l6, .int l7, x8, .int l9, .int l10, .long y1.1, .retAddr 1] [.int (lg_cmp y1.1 v2)] rfl ?_
    refine rn_br (c := 0 < (lg_cmp y1.1 v2)) rfl rfl decide_eq_true_iff (fun hb => ?_) (fun hb => ?_)
    · rw [if_pos hb] at h
      refine rn_steps 2 184 [.ref l0, .int l1, .int l2, .int l3, .int l4, .int l5, .int l6, .int l7, x8, .int l9, .int l10, .long y1.1, .retAddr 1] [.long y1.1, .ref l0] rfl ?_
      obtain ⟨σ3, hσ3, h⟩ := Option.bind_eq_some_iff.mp h
      refine rn_pJ (c := 9) (f := 26) rfl rfl ⟨⟨rfl, rfl⟩, rfl⟩ hσ3 ?_
      refine rn_steps 2 191 [.ref l0, .int l1, .int l2, .int l3, .int l4, .int l5, .int l9, .int l7, x8, .int l9, .int l10, .long y1.1, .retAddr 1] [] rfl ?_
      exact e225_191 d _ hK54 _ _ _ _ _ _ _ _ _ _ _ _ _ _ _ h
    · rw [if_neg hb] at h
      refine rn_steps 1 191 [.ref l0, .int l1, .int l2, .int l3, .int l4, .int l5, .int l6, .int l7, x8, .int l9, .int l10, .long y1.1, .retAddr 1] [] rfl ?_
      exact e225_191 d _ hK54 _ _ _ _ _ _ _ _ _ _ _ _ _ _ _ h
  · rw [if_pos (Decidable.not_not.mp hb)] at h
    refine rn_steps 1 191 [.ref l0, .int l1, .int l2, .int l3, .int l4, .int l5, .int l6, .int l7, x8, .int l9, .int l10, x11, x12] [] rfl ?_
    exact e225_191 d _ hK54 _ _ _ _ _ _ _ _ _ _ _ _ _ _ _ h
def f225_147 (K54 : Nat → Int32 → Int32 → Int32 → Int32 → Int32 → Int32 → Int32 → xM → Option (Int32 × xM)) (K78 : Nat → Int32 → Int32 → Int32 → Int32 → Int32 → Int32 → Int32 → Int32 → Int32 → Int32 → Int32 → xM → Option (Int32 × xM)) (l0 : Nat) (l1 : Int32) (l2 : Int32) (l3 : Int32) (l4 : Int32) (l5 : Int32) (l6 : Int32) (l7 : Int32) (l8 : Int32) (l9 : Int32) (l10 : Int32) (l11 : Int32) (σ : xM) : Option (Int32 × xM) :=
  K78 l0 l1 l2 l3 l4 l5 l6 l7 l8 l9 l10 (l11 + 1) σ
set_option maxRecDepth 20000 in
set_option maxHeartbeats 1000000 in
theorem e225_147 (d : Nat) (K54 : Nat → Int32 → Int32 → Int32 → Int32 → Int32 → Int32 → Int32 → xM → Option (Int32 × xM)) (hK54 : ∀ (l0 : Nat) (l1 : Int32) (l2 : Int32) (l3 : Int32) (l4 : Int32) (l5 : Int32) (l6 : Int32) (l7 : Int32) (x8 x9 x10 x11 x12 : Value) (σ : xM) (y : Int32 × xM), K54 l0 l1 l2 l3 l4 l5 l6 l7 σ = some y → Rn (d + 5) 225 54 [.ref l0, .int l1, .int l2, .int l3, .int l4, .int l5, .int l6, .int l7, x8, x9, x10, x11, x12] [] σ (some (.int y.1), y.2)) (K78 : Nat → Int32 → Int32 → Int32 → Int32 → Int32 → Int32 → Int32 → Int32 → Int32 → Int32 → Int32 → xM → Option (Int32 × xM)) (hK78 : ∀ (l0 : Nat) (l1 : Int32) (l2 : Int32) (l3 : Int32) (l4 : Int32) (l5 : Int32) (l6 : Int32) (l7 : Int32) (l8 : Int32) (l9 : Int32) (l10 : Int32) (l11 : Int32) (x12 : Value) (σ : xM) (y : Int32 × xM), K78 l0 l1 l2 l3 l4 l5 l6 l7 l8 l9 l10 l11 σ = some y → Rn (d + 5) 225 78 [.ref l0, .int l1, .int l2, .int l3, .int l4, .int l5, .int l6, .int l7, .int l8, .int l9, .int l10, .int l11, x12] [] σ (some (.int y.1), y.2)) (l0 : Nat) (l1 : Int32) (l2 : Int32) (l3 : Int32) (l4 : Int32) (l5 : Int32) (l6 : Int32) (l7 : Int32) (l8 : Int32) (l9 : Int32) (l10 : Int32) (l11 : Int32) (x12 : Value) (σ : xM) (y : Int32 × xM) (h : f225_147 K54 K78 l0 l1 l2 l3 l4 l5 l6 l7 l8 l9 l10 l11 σ = some y) : Rn (d + 5) 225 147 [.ref l0, .int l1, .int l2, .int l3, .int l4, .int l5, .int l6, .int l7, .int l8, .int l9, .int l10, .int l11, x12] [] σ (some (.int y.1), y.2) := by
  unfold f225_147 at h
  refine rn_steps 2 78 [.ref l0, .int l1, .int l2, .int l3, .int l4, .int l5, .int l6, .int l7, .int l8, .int l9, .int l10, .int (l11 + 1), x12] [] rfl ?_
  exact hK78 _ _ _ _ _ _ _ _ _ _ _ _ _ _ _ h
def f225_78 (K54 : Nat → Int32 → Int32 → Int32 → Int32 → Int32 → Int32 → Int32 → xM → Option (Int32 × xM)) : Nat → Nat → Int32 → Int32 → Int32 → Int32 → Int32 → Int32 → Int32 → Int32 → Int32 → Int32 → Int32 → xM → Option (Int32 × xM)
  | 0, _, _, _, _, _, _, _, _, _, _, _, _, _ => none
  | n + 1, l0, l1, l2, l3, l4, l5, l6, l7, l8, l9, l10, l11, σ =>
    if l2 ≤ l11 then
    f225_153 K54 l0 l1 l2 l3 l4 l5 l6 l7 l9 l10 σ
    else
    if l10 = 0 then
    f225_153 K54 l0 l1 l2 l3 l4 l5 l6 l7 l9 l10 σ
    else
    (dI l8 l3).bind fun v1 =>
    (dI l7 v1).bind fun v2 =>
    (rI v2 l3).bind fun v3 =>
    if v3 = 0 then
    f225_147 K54 (f225_78 K54 n) l0 l1 l2 l3 l4 l5 l6 l7 v1 ((10 * l9) + v3) l10 l11 σ
    else
    (f157 l5 (v3 - 1) σ).bind fun y4 =>
    if y4.1 = 0 then
    f225_147 K54 (f225_78 K54 n) l0 l1 l2 l3 l4 l5 l6 l7 v1 ((10 * l9) + v3) y4.1 l11 y4.2
    else
    (cO y4.2 l0 9).bind fun u6 =>
    (f224 l0 l1 (v3 - 1) y4.2).bind fun y5 =>
    f225_147 K54 (f225_78 K54 n) l0 l1 l2 l3 l4 l5 l6 l7 v1 ((10 * l9) + v3) y4.1 l11 y5
set_option maxRecDepth 20000 in
set_option maxHeartbeats 1000000 in
theorem e225_78 (d : Nat) (K54 : Nat → Int32 → Int32 → Int32 → Int32 → Int32 → Int32 → Int32 → xM → Option (Int32 × xM)) (hK54 : ∀ (l0 : Nat) (l1 : Int32) (l2 : Int32) (l3 : Int32) (l4 : Int32) (l5 : Int32) (l6 : Int32) (l7 : Int32) (x8 x9 x10 x11 x12 : Value) (σ : xM) (y : Int32 × xM), K54 l0 l1 l2 l3 l4 l5 l6 l7 σ = some y → Rn (d + 5) 225 54 [.ref l0, .int l1, .int l2, .int l3, .int l4, .int l5, .int l6, .int l7, x8, x9, x10, x11, x12] [] σ (some (.int y.1), y.2)) : ∀ (n : Nat) (l0 : Nat) (l1 : Int32) (l2 : Int32) (l3 : Int32) (l4 : Int32) (l5 : Int32) (l6 : Int32) (l7 : Int32) (l8 : Int32) (l9 : Int32) (l10 : Int32) (l11 : Int32) (x12 : Value) (σ : xM) (y : Int32 × xM), f225_78 K54 n l0 l1 l2 l3 l4 l5 l6 l7 l8 l9 l10 l11 σ = some y → Rn (d + 5) 225 78 [.ref l0, .int l1, .int l2, .int l3, .int l4, .int l5, .int l6, .int l7, .int l8, .int l9, .int l10, .int l11, x12] [] σ (some (.int y.1), y.2) := by
  intro n
  induction n with
  | zero => intro l0 l1 l2 l3 l4 l5 l6 l7 l8 l9 l10 l11 x12 σ y h; cases h
  | succ n ih =>
    intro l0 l1 l2 l3 l4 l5 l6 l7 l8 l9 l10 l11 x12 σ y h
    unfold f225_78 at h
    refine rn_steps 2 81 [.ref l0, .int l1, .int l2, .int l3, .int l4, .int l5, .int l6, .int l7, .int l8, .int l9, .int l10, .int l11, x12] [.int l2, .int l11] rfl ?_
    refine rn_br (c := l2 ≤ l11) rfl rfl decide_eq_true_iff (fun hb => ?_) (fun hb => ?_)
    · rw [if_pos hb] at h
      refine rn_steps 0 153 [.ref l0, .int l1, .int l2, .int l3, .int l4, .int l5, .int l6, .int l7, .int l8, .int l9, .int l10, .int l11, x12] [] rfl ?_
      exact e225_153 d _ hK54 _ _ _ _ _ _ _ _ _ _ _ _ _ _ _ h
    · rw [if_neg hb] at h
      refine rn_steps 1 86 [.ref l0, .int l1, .int l2, .int l3, .int l4, .int l5, .int l6, .int l7, .int l8, .int l9, .int l10, .int l11, x12] [.int l10] rfl ?_
      refine rn_br (c := l10 = 0) rfl rfl decide_eq_true_iff (fun hb => ?_) (fun hb => ?_)
      · rw [if_pos hb] at h
        refine rn_steps 0 153 [.ref l0, .int l1, .int l2, .int l3, .int l4, .int l5, .int l6, .int l7, .int l8, .int l9, .int l10, .int l11, x12] [] rfl ?_
        exact e225_153 d _ hK54 _ _ _ _ _ _ _ _ _ _ _ _ _ _ _ h
      · rw [if_neg hb] at h
        refine rn_steps 2 92 [.ref l0, .int l1, .int l2, .int l3, .int l4, .int l5, .int l6, .int l7, .int l8, .int l9, .int l10, .int l11, x12] [.int l3, .int l8] rfl ?_
        obtain ⟨v1, hv1, h⟩ := Option.bind_eq_some_iff.mp h
        refine rn_dI rfl hv1 ?_
        refine rn_steps 3 99 [.ref l0, .int l1, .int l2, .int l3, .int l4, .int l5, .int l6, .int l7, .int v1, .int l9, .int l10, .int l11, x12] [.int v1, .int l7] rfl ?_
        obtain ⟨v2, hv2, h⟩ := Option.bind_eq_some_iff.mp h
        refine rn_dI rfl hv2 ?_
        refine rn_steps 1 101 [.ref l0, .int l1, .int l2, .int l3, .int l4, .int l5, .int l6, .int l7, .int v1, .int l9, .int l10, .int l11, x12] [.int l3, .int v2] rfl ?_
        obtain ⟨v3, hv3, h⟩ := Option.bind_eq_some_iff.mp h
        refine rn_rI rfl hv3 ?_
        refine rn_steps 8 116 [.ref l0, .int l1, .int l2, .int l3, .int l4, .int l5, .int l6, .int l7, .int v1, .int ((10 * l9) + v3), .int l10, .int l11, .int v3] [.int v3] rfl ?_
        refine rn_br (c := ¬ v3 = 0) rfl rfl decide_eq_true_iff (fun hb => ?_) (fun hb => ?_)
        · rw [if_neg hb] at h
          refine rn_steps 4 128 [.ref l0, .int l1, .int l2, .int l3, .int l4, .int l5, .int l6, .int l7, .int v1, .int ((10 * l9) + v3), .int l10, .int l11, .int v3] [.int (v3 - 1), .int l5] rfl ?_
          obtain ⟨y4, hy4, h⟩ := Option.bind_eq_some_iff.mp h
          refine rn_callS [.int l5, .int (v3 - 1)] rfl rfl rfl ⟨rfl, rfl, rfl⟩ rfl rfl (e157 (d + 4) hy4) ?_
          refine rn_steps 2 135 [.ref l0, .int l1, .int l2, .int l3, .int l4, .int l5, .int l6, .int l7, .int v1, .int ((10 * l9) + v3), .int y4.1, .int l11, .int v3] [.int y4.1] rfl ?_
          refine rn_br (c := y4.1 = 0) rfl rfl decide_eq_true_iff (fun hb => ?_) (fun hb => ?_)
          · rw [if_pos hb] at h
            refine rn_steps 0 147 [.ref l0, .int l1, .int l2, .int l3, .int l4, .int l5, .int l6, .int l7, .int v1, .int ((10 * l9) + v3), .int y4.1, .int l11, .int v3] [] rfl ?_
            exact e225_147 d _ hK54 _ ih _ _ _ _ _ _ _ _ _ _ _ _ _ _ _ h
          · rw [if_neg hb] at h
            refine rn_steps 5 144 [.ref l0, .int l1, .int l2, .int l3, .int l4, .int l5, .int l6, .int l7, .int v1, .int ((10 * l9) + v3), .int y4.1, .int l11, .int v3] [.int (v3 - 1), .int l1, .ref l0] rfl ?_
            obtain ⟨u6, hu6, h⟩ := Option.bind_eq_some_iff.mp h
            obtain ⟨y5, hy5, h⟩ := Option.bind_eq_some_iff.mp h
            refine rn_callV [.int l1, .int (v3 - 1)] rfl rfl ⟨rfl, rfl⟩ hu6 rfl rfl (e224 (d + 4) hy5) ?_
            refine rn_steps 0 147 [.ref l0, .int l1, .int l2, .int l3, .int l4, .int l5, .int l6, .int l7, .int v1, .int ((10 * l9) + v3), .int y4.1, .int l11, .int v3] [] rfl ?_
            exact e225_147 d _ hK54 _ ih _ _ _ _ _ _ _ _ _ _ _ _ _ _ _ h
        · rw [if_pos (Decidable.not_not.mp hb)] at h
          refine rn_steps 1 147 [.ref l0, .int l1, .int l2, .int l3, .int l4, .int l5, .int l6, .int l7, .int v1, .int ((10 * l9) + v3), .int l10, .int l11, .int v3] [] rfl ?_
          exact e225_147 d _ hK54 _ ih _ _ _ _ _ _ _ _ _ _ _ _ _ _ _ h
def f225_54 : Nat → Nat → Int32 → Int32 → Int32 → Int32 → Int32 → Int32 → Int32 → xM → Option (Int32 × xM)
  | 0, _, _, _, _, _, _, _, _, _ => none
  | n + 1, l0, l1, l2, l3, l4, l5, l6, l7, σ =>
    if l4 ≤ l7 then
    f225_197 l6 σ
    else
    (cO σ l0 9).bind fun u2 =>
    (f188 l0 σ).bind fun y1 =>
    f225_78 (f225_54 n) 1100 l0 l1 l2 l3 l4 l5 l6 l7 l4 0 1 0 y1
set_option maxRecDepth 20000 in
set_option maxHeartbeats 1000000 in
theorem e225_54 (d : Nat) : ∀ (n : Nat) (l0 : Nat) (l1 : Int32) (l2 : Int32) (l3 : Int32) (l4 : Int32) (l5 : Int32) (l6 : Int32) (l7 : Int32) (x8 x9 x10 x11 x12 : Value) (σ : xM) (y : Int32 × xM), f225_54 n l0 l1 l2 l3 l4 l5 l6 l7 σ = some y → Rn (d + 5) 225 54 [.ref l0, .int l1, .int l2, .int l3, .int l4, .int l5, .int l6, .int l7, x8, x9, x10, x11, x12] [] σ (some (.int y.1), y.2) := by
  intro n
  induction n with
  | zero => intro l0 l1 l2 l3 l4 l5 l6 l7 x8 x9 x10 x11 x12 σ y h; cases h
  | succ n ih =>
    intro l0 l1 l2 l3 l4 l5 l6 l7 x8 x9 x10 x11 x12 σ y h
    unfold f225_54 at h
    refine rn_steps 2 58 [.ref l0, .int l1, .int l2, .int l3, .int l4, .int l5, .int l6, .int l7, x8, x9, x10, x11, x12] [.int l4, .int l7] rfl ?_
    refine rn_br (c := l4 ≤ l7) rfl rfl decide_eq_true_iff (fun hb => ?_) (fun hb => ?_)
    · rw [if_pos hb] at h
      refine rn_steps 0 197 [.ref l0, .int l1, .int l2, .int l3, .int l4, .int l5, .int l6, .int l7, x8, x9, x10, x11, x12] [] rfl ?_
      exact e225_197 d _ _ _ _ _ _ _ _ _ _ _ _ _ _ _ h
    · rw [if_neg hb] at h
      refine rn_steps 7 72 [.ref l0, .int l1, .int l2, .int l3, .int l4, .int l5, .int l6, .int l7, .int l4, .int 0, .int 1, x11, x12] [.ref l0] rfl ?_
      obtain ⟨u2, hu2, h⟩ := Option.bind_eq_some_iff.mp h
      obtain ⟨y1, hy1, h⟩ := Option.bind_eq_some_iff.mp h
      refine rn_callV [] rfl rfl ⟨rfl, rfl⟩ hu2 rfl rfl (e188 (d + 4) hy1) ?_
      refine rn_steps 2 78 [.ref l0, .int l1, .int l2, .int l3, .int l4, .int l5, .int l6, .int l7, .int l4, .int 0, .int 1, .int 0, x12] [] rfl ?_
      exact e225_78 d _ ih 1100 _ _ _ _ _ _ _ _ _ _ _ _ _ _ _ h
def f225_51 (l0 : Nat) (l1 : Int32) (l2 : Int32) (l3 : Int32) (l4 : Int32) (l5 : Int32) (l6 : Int32) (σ : xM) : Option (Int32 × xM) :=
  f225_54 1100 l0 l1 l2 l3 l4 l5 l6 0 σ
set_option maxRecDepth 20000 in
set_option maxHeartbeats 1000000 in
theorem e225_51 (d : Nat) (l0 : Nat) (l1 : Int32) (l2 : Int32) (l3 : Int32) (l4 : Int32) (l5 : Int32) (l6 : Int32) (x7 x8 x9 x10 x11 x12 : Value) (σ : xM) (y : Int32 × xM) (h : f225_51 l0 l1 l2 l3 l4 l5 l6 σ = some y) : Rn (d + 5) 225 51 [.ref l0, .int l1, .int l2, .int l3, .int l4, .int l5, .int l6, x7, x8, x9, x10, x11, x12] [] σ (some (.int y.1), y.2) := by
  unfold f225_51 at h
  refine rn_steps 2 54 [.ref l0, .int l1, .int l2, .int l3, .int l4, .int l5, .int l6, .int 0, x8, x9, x10, x11, x12] [] rfl ?_
  exact e225_54 d 1100 _ _ _ _ _ _ _ _ _ _ _ _ _ _ _ h
def f225_33 : Nat → Nat → Int32 → Int32 → Int32 → Int32 → Int32 → Int32 → Int32 → xM → Option (Int32 × xM)
  | 0, _, _, _, _, _, _, _, _, _ => none
  | n + 1, l0, l1, l2, l3, l4, l5, l6, l7, σ =>
    if l2 ≤ l7 then
    f225_51 l0 l1 l2 l3 l4 l5 l6 σ
    else
    (f225_33 n) l0 l1 l2 l3 (l4 * l3) l5 l6 (l7 + 1) σ
set_option maxRecDepth 20000 in
set_option maxHeartbeats 1000000 in
theorem e225_33 (d : Nat) : ∀ (n : Nat) (l0 : Nat) (l1 : Int32) (l2 : Int32) (l3 : Int32) (l4 : Int32) (l5 : Int32) (l6 : Int32) (l7 : Int32) (x8 x9 x10 x11 x12 : Value) (σ : xM) (y : Int32 × xM), f225_33 n l0 l1 l2 l3 l4 l5 l6 l7 σ = some y → Rn (d + 5) 225 33 [.ref l0, .int l1, .int l2, .int l3, .int l4, .int l5, .int l6, .int l7, x8, x9, x10, x11, x12] [] σ (some (.int y.1), y.2) := by
  intro n
  induction n with
  | zero => intro l0 l1 l2 l3 l4 l5 l6 l7 x8 x9 x10 x11 x12 σ y h; cases h
  | succ n ih =>
    intro l0 l1 l2 l3 l4 l5 l6 l7 x8 x9 x10 x11 x12 σ y h
    unfold f225_33 at h
    refine rn_steps 2 36 [.ref l0, .int l1, .int l2, .int l3, .int l4, .int l5, .int l6, .int l7, x8, x9, x10, x11, x12] [.int l2, .int l7] rfl ?_
    refine rn_br (c := l2 ≤ l7) rfl rfl decide_eq_true_iff (fun hb => ?_) (fun hb => ?_)
    · rw [if_pos hb] at h
      refine rn_steps 0 51 [.ref l0, .int l1, .int l2, .int l3, .int l4, .int l5, .int l6, .int l7, x8, x9, x10, x11, x12] [] rfl ?_
      exact e225_51 d _ _ _ _ _ _ _ _ _ _ _ _ _ _ _ h
    · rw [if_neg hb] at h
      refine rn_steps 6 33 [.ref l0, .int l1, .int l2, .int l3, .int (l4 * l3), .int l5, .int l6, .int (l7 + 1), x8, x9, x10, x11, x12] [] rfl ?_
      exact ih _ _ _ _ _ _ _ _ _ _ _ _ _ _ _ h
/-- LastAskedModel.bestRow(II)I -/
def f225 (l0 : Nat) (l1 : Int32) (l2 : Int32) (σ : xM) : Option (Int32 × xM) :=
  (gR σ l0 9 3).bind fun r1 =>
  (gI σ r1 8 2).bind fun v2 =>
  (cO σ l0 9).bind fun u5 =>
  (f199 l0 l1 σ).bind fun y3 =>
  (pJ y3.2 l0 9 26 (-1)).bind fun σ4 =>
  f225_33 1100 l0 l1 l2 (v2 + 1) 1 y3.1 0 0 σ4
set_option maxRecDepth 20000 in
set_option maxHeartbeats 1000000 in
theorem e225 (d : Nat) {l0 : Nat} {l1 : Int32} {l2 : Int32} {σ : xM} {y : Int32 × xM} (h : f225 l0 l1 l2 σ = some y) : Rn (d + 5) 225 0 [.ref l0, .int l1, .int l2, .retAddr 0, .retAddr 0, .retAddr 0, .retAddr 0, .retAddr 0, .retAddr 0, .retAddr 0, .retAddr 0, .retAddr 0, .retAddr 0] [] σ (some (.int y.1), y.2) := by
  unfold f225 at h
  refine rn_steps 1 1 [.ref l0, .int l1, .int l2, .retAddr 0, .retAddr 0, .retAddr 0, .retAddr 0, .retAddr 0, .retAddr 0, .retAddr 0, .retAddr 0, .retAddr 0, .retAddr 0] [.ref l0] rfl ?_
  obtain ⟨r1, hr1, h⟩ := Option.bind_eq_some_iff.mp h
  refine rn_gR (c := 9) (f := 3) rfl rfl ⟨⟨rfl, rfl⟩, rfl⟩ hr1 ?_
  refine rn_steps 0 4 [.ref l0, .int l1, .int l2, .retAddr 0, .retAddr 0, .retAddr 0, .retAddr 0, .retAddr 0, .retAddr 0, .retAddr 0, .retAddr 0, .retAddr 0, .retAddr 0] [.ref r1] rfl ?_
  obtain ⟨v2, hv2, h⟩ := Option.bind_eq_some_iff.mp h
  refine rn_gI (c := 8) (f := 2) rfl rfl ⟨⟨rfl, rfl⟩, Or.inl rfl⟩ hv2 ?_
  refine rn_steps 7 15 [.ref l0, .int l1, .int l2, .int (v2 + 1), .int 1, .retAddr 0, .retAddr 0, .retAddr 0, .retAddr 0, .retAddr 0, .retAddr 0, .retAddr 0, .retAddr 0] [.int l1, .ref l0] rfl ?_
  obtain ⟨u5, hu5, h⟩ := Option.bind_eq_some_iff.mp h
  obtain ⟨y3, hy3, h⟩ := Option.bind_eq_some_iff.mp h
  refine rn_callV [.int l1] rfl rfl ⟨rfl, rfl⟩ hu5 rfl rfl (e199 (d + 2) hy3) ?_
  refine rn_steps 5 27 [.ref l0, .int l1, .int l2, .int (v2 + 1), .int 1, .int y3.1, .int 0, .retAddr 0, .retAddr 0, .retAddr 0, .retAddr 0, .retAddr 0, .retAddr 0] [.long (-1), .ref l0] rfl ?_
  obtain ⟨σ4, hσ4, h⟩ := Option.bind_eq_some_iff.mp h
  refine rn_pJ (c := 9) (f := 26) rfl rfl ⟨⟨rfl, rfl⟩, rfl⟩ hσ4 ?_
  refine rn_steps 2 33 [.ref l0, .int l1, .int l2, .int (v2 + 1), .int 1, .int y3.1, .int 0, .int 0, .retAddr 0, .retAddr 0, .retAddr 0, .retAddr 0, .retAddr 0] [] rfl ?_
  exact e225_33 d 1100 _ _ _ _ _ _ _ _ _ _ _ _ _ _ _ h
def f226_45 (s0 : Int32) (σ : xM) : Option (Int32 × xM) :=
  some (s0, σ)
set_option maxRecDepth 20000 in
set_option maxHeartbeats 1000000 in
theorem e226_45 (d : Nat) (s0 : Int32) (x0 x1 x2 x3 x4 : Value) (σ : xM) (y : Int32 × xM) (h : f226_45 s0 σ = some y) : Rn (d + 1) 226 45 [x0, x1, x2, x3, x4] [.int s0] σ (some (.int y.1), y.2) := by
  unfold f226_45 at h
  cases h
  exact rn_ret rfl rfl rfl
/-- LastAskedModel.refusesNumber(IIII)I -/
def f226 (l0 : Nat) (l1 : Int32) (l2 : Int32) (l3 : Int32) (l4 : Int32) (σ : xM) : Option (Int32 × xM) :=
  (cO σ l0 9).bind fun u6 =>
  (f186 l0 l1 σ).bind fun y1 =>
  if y1.1 = 0 then
  f226_45 1 y1.2
  else
  (f156 l2 l3 l4 y1.2).bind fun y2 =>
  if y2.1 = 0 then
  f226_45 2 y2.2
  else
  (gR y2.2 l0 9 16).bind fun r3 =>
  (aI y2.2 r3 42).bind fun v4 =>
  (f157 v4 l1 y2.2).bind fun y5 =>
  if y5.1 = 0 then
  f226_45 5 y5.2
  else
  f226_45 0 y5.2
set_option maxRecDepth 20000 in
set_option maxHeartbeats 1000000 in
theorem e226 (d : Nat) {l0 : Nat} {l1 : Int32} {l2 : Int32} {l3 : Int32} {l4 : Int32} {σ : xM} {y : Int32 × xM} (h : f226 l0 l1 l2 l3 l4 σ = some y) : Rn (d + 1) 226 0 [.ref l0, .int l1, .int l2, .int l3, .int l4] [] σ (some (.int y.1), y.2) := by
  unfold f226 at h
  refine rn_steps 2 2 [.ref l0, .int l1, .int l2, .int l3, .int l4] [.int l1, .ref l0] rfl ?_
  obtain ⟨u6, hu6, h⟩ := Option.bind_eq_some_iff.mp h
  obtain ⟨y1, hy1, h⟩ := Option.bind_eq_some_iff.mp h
  refine rn_callV [.int l1] rfl rfl ⟨rfl, rfl⟩ hu6 rfl rfl (e186 d hy1) ?_
  refine rn_steps 0 5 [.ref l0, .int l1, .int l2, .int l3, .int l4] [.int y1.1] rfl ?_
  refine rn_br (c := ¬ y1.1 = 0) rfl rfl decide_eq_true_iff (fun hb => ?_) (fun hb => ?_)
  · rw [if_neg hb] at h
    refine rn_steps 3 16 [.ref l0, .int l1, .int l2, .int l3, .int l4] [.int l4, .int l3, .int l2] rfl ?_
    obtain ⟨y2, hy2, h⟩ := Option.bind_eq_some_iff.mp h
    refine rn_callS [.int l2, .int l3, .int l4] rfl rfl rfl ⟨rfl, rfl, rfl⟩ rfl rfl (e156 d hy2) ?_
    refine rn_steps 0 19 [.ref l0, .int l1, .int l2, .int l3, .int l4] [.int y2.1] rfl ?_
    refine rn_br (c := ¬ y2.1 = 0) rfl rfl decide_eq_true_iff (fun hb => ?_) (fun hb => ?_)
    · rw [if_neg hb] at h
      refine rn_steps 1 27 [.ref l0, .int l1, .int l2, .int l3, .int l4] [.ref l0] rfl ?_
      obtain ⟨r3, hr3, h⟩ := Option.bind_eq_some_iff.mp h
      refine rn_gR (c := 9) (f := 16) rfl rfl ⟨⟨rfl, rfl⟩, rfl⟩ hr3 ?_
      refine rn_steps 1 32 [.ref l0, .int l1, .int l2, .int l3, .int l4] [.int 42, .ref r3] rfl ?_
      obtain ⟨v4, hv4, h⟩ := Option.bind_eq_some_iff.mp h
      refine rn_aI rfl hv4 ?_
      refine rn_steps 1 34 [.ref l0, .int l1, .int l2, .int l3, .int l4] [.int l1, .int v4] rfl ?_
      obtain ⟨y5, hy5, h⟩ := Option.bind_eq_some_iff.mp h
      refine rn_callS [.int v4, .int l1] rfl rfl rfl ⟨rfl, rfl, rfl⟩ rfl rfl (e157 d hy5) ?_
      refine rn_steps 0 37 [.ref l0, .int l1, .int l2, .int l3, .int l4] [.int y5.1] rfl ?_
      refine rn_br (c := y5.1 = 0) rfl rfl decide_eq_true_iff (fun hb => ?_) (fun hb => ?_)
      · rw [if_pos hb] at h
        refine rn_steps 1 45 [.ref l0, .int l1, .int l2, .int l3, .int l4] [.int 5] rfl ?_
        exact e226_45 d _ _ _ _ _ _ _ _ h
      · rw [if_neg hb] at h
        refine rn_steps 2 45 [.ref l0, .int l1, .int l2, .int l3, .int l4] [.int 0] rfl ?_
        exact e226_45 d _ _ _ _ _ _ _ _ h
    · rw [if_pos (Decidable.not_not.mp hb)] at h
      refine rn_steps 2 45 [.ref l0, .int l1, .int l2, .int l3, .int l4] [.int 2] rfl ?_
      exact e226_45 d _ _ _ _ _ _ _ _ h
  · rw [if_pos (Decidable.not_not.mp hb)] at h
    refine rn_steps 2 45 [.ref l0, .int l1, .int l2, .int l3, .int l4] [.int 1] rfl ?_
    exact e226_45 d _ _ _ _ _ _ _ _ h
def f227_36 (s0 : Int32) (σ : xM) : Option (Int32 × xM) :=
  some (s0, σ)
set_option maxRecDepth 20000 in
set_option maxHeartbeats 1000000 in
theorem e227_36 (d : Nat) (s0 : Int32) (x0 x1 x2 x3 : Value) (σ : xM) (y : Int32 × xM) (h : f227_36 s0 σ = some y) : Rn (d + 6) 227 36 [x0, x1, x2, x3] [.int s0] σ (some (.int y.1), y.2) := by
  unfold f227_36 at h
  cases h
  exact rn_ret rfl rfl rfl
/-- LastAskedModel.best(II)I -/
def f227 (l0 : Nat) (l1 : Int32) (l2 : Int32) (σ : xM) : Option (Int32 × xM) :=
  (pI σ l0 9 0 0).bind fun σ1 =>
  (cO σ1 l0 9).bind fun u9 =>
  (f226 l0 l1 l2 1 3 σ1).bind fun y2 =>
  if y2.1 ≤ 0 then
  (cO y2.2 l0 9).bind fun u6 =>
  (f225 l0 l1 l2 y2.2).bind fun y3 =>
  (cO y3.2 l0 9).bind fun u5 =>
  (f154 l0 y3.1 y3.2).bind fun y4 =>
  f227_36 y4.1 y4.2
  else
  (cO y2.2 l0 9).bind fun u8 =>
  (f151 l0 y2.1 y2.2).bind fun y7 =>
  f227_36 y7.1 y7.2
set_option maxRecDepth 20000 in
set_option maxHeartbeats 1000000 in
theorem e227 (d : Nat) {l0 : Nat} {l1 : Int32} {l2 : Int32} {σ : xM} {y : Int32 × xM} (h : f227 l0 l1 l2 σ = some y) : Rn (d + 6) 227 0 [.ref l0, .int l1, .int l2, .retAddr 0] [] σ (some (.int y.1), y.2) := by
  unfold f227 at h
  refine rn_steps 2 2 [.ref l0, .int l1, .int l2, .retAddr 0] [.int 0, .ref l0] rfl ?_
  obtain ⟨σ1, hσ1, h⟩ := Option.bind_eq_some_iff.mp h
  refine rn_pI (c := 9) (f := 0) rfl rfl ⟨⟨rfl, rfl⟩, rfl⟩ hσ1 ?_
  refine rn_steps 5 10 [.ref l0, .int l1, .int l2, .retAddr 0] [.int 3, .int 1, .int l2, .int l1, .ref l0] rfl ?_
  obtain ⟨u9, hu9, h⟩ := Option.bind_eq_some_iff.mp h
  obtain ⟨y2, hy2, h⟩ := Option.bind_eq_some_iff.mp h
  refine rn_callV [.int l1, .int l2, .int 1, .int 3] rfl rfl ⟨rfl, rfl⟩ hu9 rfl rfl (e226 (d + 4) hy2) ?_
  refine rn_steps 2 15 [.ref l0, .int l1, .int l2, .int y2.1] [.int y2.1] rfl ?_
  refine rn_br (c := y2.1 ≤ 0) rfl rfl decide_eq_true_iff (fun hb => ?_) (fun hb => ?_)
  · rw [if_pos hb] at h
    refine rn_steps 4 30 [.ref l0, .int l1, .int l2, .int y2.1] [.int l2, .int l1, .ref l0, .ref l0] rfl ?_
    obtain ⟨u6, hu6, h⟩ := Option.bind_eq_some_iff.mp h
    obtain ⟨y3, hy3, h⟩ := Option.bind_eq_some_iff.mp h
    refine rn_callV [.int l1, .int l2] rfl rfl ⟨rfl, rfl⟩ hu6 rfl rfl (e225 d hy3) ?_
    refine rn_steps 0 33 [.ref l0, .int l1, .int l2, .int y2.1] [.int y3.1, .ref l0] rfl ?_
    obtain ⟨u5, hu5, h⟩ := Option.bind_eq_some_iff.mp h
    obtain ⟨y4, hy4, h⟩ := Option.bind_eq_some_iff.mp h
    refine rn_callV [.int y3.1] rfl rfl ⟨rfl, rfl⟩ hu5 rfl rfl (e154 (d + 5) hy4) ?_
    refine rn_steps 0 36 [.ref l0, .int l1, .int l2, .int y2.1] [.int y4.1] rfl ?_
    exact e227_36 d _ _ _ _ _ _ _ h
  · rw [if_neg hb] at h
    refine rn_steps 2 20 [.ref l0, .int l1, .int l2, .int y2.1] [.int y2.1, .ref l0] rfl ?_
    obtain ⟨u8, hu8, h⟩ := Option.bind_eq_some_iff.mp h
    obtain ⟨y7, hy7, h⟩ := Option.bind_eq_some_iff.mp h
    refine rn_callV [.int y2.1] rfl rfl ⟨rfl, rfl⟩ hu8 rfl rfl (e151 (d + 5) hy7) ?_
    refine rn_steps 1 36 [.ref l0, .int l1, .int l2, .int y2.1] [.int y7.1] rfl ?_
    exact e227_36 d _ _ _ _ _ _ _ h
/-- LastAskedModel.bestMean(IIZ)J -/
def f228 (l0 : Nat) (l1 : Int32) (l2 : Int32) (l3 : Int32) (σ : xM) : Option (Int64 × xM) :=
  (pI σ l0 9 0 0).bind fun σ1 =>
  (cO σ1 l0 9).bind fun u15 =>
  (f226 l0 l1 l2 1 3 σ1).bind fun y2 =>
  if y2.1 ≤ 0 then
  (cO y2.2 l0 9).bind fun u12 =>
  (f225 l0 l1 l2 y2.2).bind fun y3 =>
  (cO y3.2 l0 9).bind fun u11 =>
  (f188 l0 y3.2).bind fun y4 =>
  (cO y4 l0 9).bind fun u10 =>
  (f218 l0 y4).bind fun y5 =>
  (gJ y5 l0 9 26).bind fun v6 =>
  (gJ y5 l0 9 25).bind fun v7 =>
  (cO y5 l0 9).bind fun u9 =>
  (f160 l0 v6 v7 l3 y5).bind fun y8 =>
  some (y8.1, y8.2)
  else
  (cO y2.2 l0 9).bind fun u14 =>
  (f151 l0 y2.1 y2.2).bind fun y13 =>
  some (y13.1.toInt64, y13.2)
set_option maxRecDepth 20000 in
set_option maxHeartbeats 1000000 in
theorem e228 (d : Nat) {l0 : Nat} {l1 : Int32} {l2 : Int32} {l3 : Int32} {σ : xM} {y : Int64 × xM} (h : f228 l0 l1 l2 l3 σ = some y) : Rn (d + 6) 228 0 [.ref l0, .int l1, .int l2, .int l3, .retAddr 0] [] σ (some (.long y.1), y.2) := by
  unfold f228 at h
  refine rn_steps 2 2 [.ref l0, .int l1, .int l2, .int l3, .retAddr 0] [.int 0, .ref l0] rfl ?_
  obtain ⟨σ1, hσ1, h⟩ := Option.bind_eq_some_iff.mp h
  refine rn_pI (c := 9) (f := 0) rfl rfl ⟨⟨rfl, rfl⟩, rfl⟩ hσ1 ?_
  refine rn_steps 5 10 [.ref l0, .int l1, .int l2, .int l3, .retAddr 0] [.int 3, .int 1, .int l2, .int l1, .ref l0] rfl ?_
  obtain ⟨u15, hu15, h⟩ := Option.bind_eq_some_iff.mp h
  obtain ⟨y2, hy2, h⟩ := Option.bind_eq_some_iff.mp h
  refine rn_callV [.int l1, .int l2, .int 1, .int 3] rfl rfl ⟨rfl, rfl⟩ hu15 rfl rfl (e226 (d + 4) hy2) ?_
  refine rn_steps 2 17 [.ref l0, .int l1, .int l2, .int l3, .int y2.1] [.int y2.1] rfl ?_
  refine rn_br (c := y2.1 ≤ 0) rfl rfl decide_eq_true_iff (fun hb => ?_) (fun hb => ?_)
  · rw [if_pos hb] at h
    refine rn_steps 3 31 [.ref l0, .int l1, .int l2, .int l3, .int y2.1] [.int l2, .int l1, .ref l0] rfl ?_
    obtain ⟨u12, hu12, h⟩ := Option.bind_eq_some_iff.mp h
    obtain ⟨y3, hy3, h⟩ := Option.bind_eq_some_iff.mp h
    refine rn_callV [.int l1, .int l2] rfl rfl ⟨rfl, rfl⟩ hu12 rfl rfl (e225 d hy3) ?_
    refine rn_steps 2 36 [.ref l0, .int l1, .int l2, .int l3, .int y2.1] [.ref l0] rfl ?_
    obtain ⟨u11, hu11, h⟩ := Option.bind_eq_some_iff.mp h
    obtain ⟨y4, hy4, h⟩ := Option.bind_eq_some_iff.mp h
    refine rn_callV [] rfl rfl ⟨rfl, rfl⟩ hu11 rfl rfl (e188 (d + 5) hy4) ?_
    refine rn_steps 1 40 [.ref l0, .int l1, .int l2, .int l3, .int y2.1] [.ref l0] rfl ?_
    obtain ⟨u10, hu10, h⟩ := Option.bind_eq_some_iff.mp h
    obtain ⟨y5, hy5, h⟩ := Option.bind_eq_some_iff.mp h
    refine rn_callV [] rfl rfl ⟨rfl, rfl⟩ hu10 rfl rfl (e218 (d + 3) hy5) ?_
    refine rn_steps 2 45 [.ref l0, .int l1, .int l2, .int l3, .int y2.1] [.ref l0, .ref l0] rfl ?_
    obtain ⟨v6, hv6, h⟩ := Option.bind_eq_some_iff.mp h
    refine rn_gJ (c := 9) (f := 26) rfl rfl ⟨⟨rfl, rfl⟩, rfl⟩ hv6 ?_
    refine rn_steps 1 49 [.ref l0, .int l1, .int l2, .int l3, .int y2.1] [.ref l0, .long v6, .ref l0] rfl ?_
    obtain ⟨v7, hv7, h⟩ := Option.bind_eq_some_iff.mp h
    refine rn_gJ (c := 9) (f := 25) rfl rfl ⟨⟨rfl, rfl⟩, rfl⟩ hv7 ?_
    refine rn_steps 1 53 [.ref l0, .int l1, .int l2, .int l3, .int y2.1] [.int l3, .long v7, .long v6, .ref l0] rfl ?_
    obtain ⟨u9, hu9, h⟩ := Option.bind_eq_some_iff.mp h
    obtain ⟨y8, hy8, h⟩ := Option.bind_eq_some_iff.mp h
    refine rn_callV [.long v6, .long v7, .int l3] rfl rfl ⟨rfl, rfl⟩ hu9 rfl rfl (e160 (d + 4) hy8) ?_
    refine rn_steps 0 56 [.ref l0, .int l1, .int l2, .int l3, .int y2.1] [.long y8.1] rfl ?_
    cases h
    exact rn_ret rfl rfl rfl
  · rw [if_neg hb] at h
    refine rn_steps 2 23 [.ref l0, .int l1, .int l2, .int l3, .int y2.1] [.int y2.1, .ref l0] rfl ?_
    obtain ⟨u14, hu14, h⟩ := Option.bind_eq_some_iff.mp h
    obtain ⟨y13, hy13, h⟩ := Option.bind_eq_some_iff.mp h
    refine rn_callV [.int y2.1] rfl rfl ⟨rfl, rfl⟩ hu14 rfl rfl (e151 (d + 5) hy13) ?_
    refine rn_steps 1 27 [.ref l0, .int l1, .int l2, .int l3, .int y2.1] [.long y13.1.toInt64] rfl ?_
    cases h
    exact rn_ret rfl rfl rfl
def f230_47 (σ : xM) : Option xM :=
  some σ
set_option maxRecDepth 20000 in
set_option maxHeartbeats 1000000 in
theorem e230_47 (d : Nat) (x0 x1 x2 x3 : Value) (σ : xM) (y : xM) (h : f230_47 σ = some y) : Rn (d + 1) 230 47 [x0, x1, x2, x3] [] σ (none, y) := by
  unfold f230_47 at h
  cases h
  exact rn_ret rfl rfl rfl
def f230_41 (K2 : Nat → Int32 → Int32 → Int32 → xM → Option xM) (l0 : Nat) (l1 : Int32) (l2 : Int32) (l3 : Int32) (σ : xM) : Option xM :=
  K2 l0 l1 l2 (l3 + 1) σ
set_option maxRecDepth 20000 in
set_option maxHeartbeats 1000000 in
theorem e230_41 (d : Nat) (K2 : Nat → Int32 → Int32 → Int32 → xM → Option xM) (hK2 : ∀ (l0 : Nat) (l1 : Int32) (l2 : Int32) (l3 : Int32) (σ : xM) (y : xM), K2 l0 l1 l2 l3 σ = some y → Rn (d + 1) 230 2 [.ref l0, .int l1, .int l2, .int l3] [] σ (none, y)) (l0 : Nat) (l1 : Int32) (l2 : Int32) (l3 : Int32) (σ : xM) (y : xM) (h : f230_41 K2 l0 l1 l2 l3 σ = some y) : Rn (d + 1) 230 41 [.ref l0, .int l1, .int l2, .int l3] [] σ (none, y) := by
  unfold f230_41 at h
  refine rn_steps 2 2 [.ref l0, .int l1, .int l2, .int (l3 + 1)] [] rfl ?_
  exact hK2 _ _ _ _ _ _ h
def f230_2 : Nat → Nat → Int32 → Int32 → Int32 → xM → Option xM
  | 0, _, _, _, _, _ => none
  | n + 1, l0, l1, l2, l3, σ =>
    (gR σ l0 9 3).bind fun r1 =>
    (gI σ r1 8 2).bind fun v2 =>
    if v2 ≤ l3 then
    f230_47 σ
    else
    (cO σ l0 9).bind fun u8 =>
    (f198 l0 l2 σ).bind fun y3 =>
    (f157 y3.1 l3 y3.2).bind fun y4 =>
    if y4.1 = 0 then
    f230_41 (f230_2 n) l0 l1 l2 l3 y4.2
    else
    (gR y4.2 l0 9 28).bind fun r5 =>
    (aI y4.2 r5 (l1 ||| (1 <<< (l3 &&& 31)))).bind fun v6 =>
    (tI y4.2 r5 (l1 ||| (1 <<< (l3 &&& 31))) (v6 ||| (1 <<< (l3 &&& 31)))).bind fun σ7 =>
    f230_41 (f230_2 n) l0 l1 l2 l3 σ7
set_option maxRecDepth 20000 in
set_option maxHeartbeats 1000000 in
theorem e230_2 (d : Nat) : ∀ (n : Nat) (l0 : Nat) (l1 : Int32) (l2 : Int32) (l3 : Int32) (σ : xM) (y : xM), f230_2 n l0 l1 l2 l3 σ = some y → Rn (d + 1) 230 2 [.ref l0, .int l1, .int l2, .int l3] [] σ (none, y) := by
  intro n
  induction n with
  | zero => intro l0 l1 l2 l3 σ y h; cases h
  | succ n ih =>
    intro l0 l1 l2 l3 σ y h
    unfold f230_2 at h
    refine rn_steps 2 4 [.ref l0, .int l1, .int l2, .int l3] [.ref l0, .int l3] rfl ?_
    obtain ⟨r1, hr1, h⟩ := Option.bind_eq_some_iff.mp h
    refine rn_gR (c := 9) (f := 3) rfl rfl ⟨⟨rfl, rfl⟩, rfl⟩ hr1 ?_
    refine rn_steps 0 7 [.ref l0, .int l1, .int l2, .int l3] [.ref r1, .int l3] rfl ?_
    obtain ⟨v2, hv2, h⟩ := Option.bind_eq_some_iff.mp h
    refine rn_gI (c := 8) (f := 2) rfl rfl ⟨⟨rfl, rfl⟩, Or.inl rfl⟩ hv2 ?_
    refine rn_steps 0 10 [.ref l0, .int l1, .int l2, .int l3] [.int v2, .int l3] rfl ?_
    refine rn_br (c := v2 ≤ l3) rfl rfl decide_eq_true_iff (fun hb => ?_) (fun hb => ?_)
    · rw [if_pos hb] at h
      refine rn_steps 0 47 [.ref l0, .int l1, .int l2, .int l3] [] rfl ?_
      exact e230_47 d _ _ _ _ _ _ h
    · rw [if_neg hb] at h
      refine rn_steps 2 15 [.ref l0, .int l1, .int l2, .int l3] [.int l2, .ref l0] rfl ?_
      obtain ⟨u8, hu8, h⟩ := Option.bind_eq_some_iff.mp h
      obtain ⟨y3, hy3, h⟩ := Option.bind_eq_some_iff.mp h
      refine rn_callV [.int l2] rfl rfl ⟨rfl, rfl⟩ hu8 rfl rfl (e198 d hy3) ?_
      refine rn_steps 1 19 [.ref l0, .int l1, .int l2, .int l3] [.int l3, .int y3.1] rfl ?_
      obtain ⟨y4, hy4, h⟩ := Option.bind_eq_some_iff.mp h
      refine rn_callS [.int y3.1, .int l3] rfl rfl rfl ⟨rfl, rfl, rfl⟩ rfl rfl (e157 d hy4) ?_
      refine rn_steps 0 22 [.ref l0, .int l1, .int l2, .int l3] [.int y4.1] rfl ?_
      refine rn_br (c := y4.1 = 0) rfl rfl decide_eq_true_iff (fun hb => ?_) (fun hb => ?_)
      · rw [if_pos hb] at h
        refine rn_steps 0 41 [.ref l0, .int l1, .int l2, .int l3] [] rfl ?_
        exact e230_41 d _ ih _ _ _ _ _ _ h
      · rw [if_neg hb] at h
        refine rn_steps 1 26 [.ref l0, .int l1, .int l2, .int l3] [.ref l0] rfl ?_
        obtain ⟨r5, hr5, h⟩ := Option.bind_eq_some_iff.mp h
        refine rn_gR (c := 9) (f := 28) rfl rfl ⟨⟨rfl, rfl⟩, rfl⟩ hr5 ?_
        refine rn_steps 6 35 [.ref l0, .int l1, .int l2, .int l3] [.int (l1 ||| (1 <<< (l3 &&& 31))), .ref r5, .int (l1 ||| (1 <<< (l3 &&& 31))), .ref r5] rfl ?_
        obtain ⟨v6, hv6, h⟩ := Option.bind_eq_some_iff.mp h
        refine rn_aI rfl hv6 ?_
        refine rn_steps 4 40 [.ref l0, .int l1, .int l2, .int l3] [.int (v6 ||| (1 <<< (l3 &&& 31))), .int (l1 ||| (1 <<< (l3 &&& 31))), .ref r5] rfl ?_
        obtain ⟨σ7, hσ7, h⟩ := Option.bind_eq_some_iff.mp h
        refine rn_tI rfl hσ7 ?_
        refine rn_steps 0 41 [.ref l0, .int l1, .int l2, .int l3] [] rfl ?_
        exact e230_41 d _ ih _ _ _ _ _ _ h
/-- LastAskedModel.spreads(II)V -/
def f230 (l0 : Nat) (l1 : Int32) (l2 : Int32) (σ : xM) : Option xM :=
  f230_2 1100 l0 l1 l2 0 σ
set_option maxRecDepth 20000 in
set_option maxHeartbeats 1000000 in
theorem e230 (d : Nat) {l0 : Nat} {l1 : Int32} {l2 : Int32} {σ : xM} {y : xM} (h : f230 l0 l1 l2 σ = some y) : Rn (d + 1) 230 0 [.ref l0, .int l1, .int l2, .retAddr 0] [] σ (none, y) := by
  unfold f230 at h
  refine rn_steps 2 2 [.ref l0, .int l1, .int l2, .int 0] [] rfl ?_
  exact e230_2 d 1100 _ _ _ _ _ _ h
def f229_202 (σ : xM) : Option (Int32 × xM) :=
  some (9999, σ)
set_option maxRecDepth 20000 in
set_option maxHeartbeats 1000000 in
theorem e229_202 (d : Nat) (x0 x1 x2 x3 x4 x5 x6 : Value) (σ : xM) (y : Int32 × xM) (h : f229_202 σ = some y) : Rn (d + 2) 229 202 [x0, x1, x2, x3, x4, x5, x6] [] σ (some (.int y.1), y.2) := by
  unfold f229_202 at h
  refine rn_steps 1 205 [x0, x1, x2, x3, x4, x5, x6] [.int 9999] rfl ?_
  cases h
  exact rn_ret rfl rfl rfl
def f229_196 (K38 : Nat → Int32 → Int32 → Int32 → xM → Option (Int32 × xM)) (l0 : Nat) (l2 : Int32) (l3 : Int32) (l4 : Int32) (σ : xM) : Option (Int32 × xM) :=
  K38 l0 l2 l3 (l4 + 1) σ
set_option maxRecDepth 20000 in
set_option maxHeartbeats 1000000 in
theorem e229_196 (d : Nat) (K38 : Nat → Int32 → Int32 → Int32 → xM → Option (Int32 × xM)) (hK38 : ∀ (l0 : Nat) (l2 : Int32) (l3 : Int32) (l4 : Int32) (x1 x5 x6 : Value) (σ : xM) (y : Int32 × xM), K38 l0 l2 l3 l4 σ = some y → Rn (d + 2) 229 38 [.ref l0, x1, .int l2, .int l3, .int l4, x5, x6] [] σ (some (.int y.1), y.2)) (l0 : Nat) (l2 : Int32) (l3 : Int32) (l4 : Int32) (x1 x5 x6 : Value) (σ : xM) (y : Int32 × xM) (h : f229_196 K38 l0 l2 l3 l4 σ = some y) : Rn (d + 2) 229 196 [.ref l0, x1, .int l2, .int l3, .int l4, x5, x6] [] σ (some (.int y.1), y.2) := by
  unfold f229_196 at h
  refine rn_steps 2 38 [.ref l0, x1, .int l2, .int l3, .int (l4 + 1), x5, x6] [] rfl ?_
  exact hK38 _ _ _ _ _ _ _ _ _ h
def f229_169 (K38 : Nat → Int32 → Int32 → Int32 → xM → Option (Int32 × xM)) : Nat → Nat → Int32 → Int32 → Int32 → Int32 → xM → Option (Int32 × xM)
  | 0, _, _, _, _, _, _ => none
  | n + 1, l0, l2, l3, l4, l5, σ =>
    if 64 ≤ l5 then
    f229_196 K38 l0 l2 l3 l4 σ
    else
    (gR σ l0 9 27).bind fun r1 =>
    (gR σ l0 9 28).bind fun r2 =>
    (aI σ r2 l5).bind fun v3 =>
    (tI σ r1 l5 v3).bind fun σ4 =>
    (f229_169 K38 n) l0 l2 l3 l4 (l5 + 1) σ4
set_option maxRecDepth 20000 in
set_option maxHeartbeats 1000000 in
theorem e229_169 (d : Nat) (K38 : Nat → Int32 → Int32 → Int32 → xM → Option (Int32 × xM)) (hK38 : ∀ (l0 : Nat) (l2 : Int32) (l3 : Int32) (l4 : Int32) (x1 x5 x6 : Value) (σ : xM) (y : Int32 × xM), K38 l0 l2 l3 l4 σ = some y → Rn (d + 2) 229 38 [.ref l0, x1, .int l2, .int l3, .int l4, x5, x6] [] σ (some (.int y.1), y.2)) : ∀ (n : Nat) (l0 : Nat) (l2 : Int32) (l3 : Int32) (l4 : Int32) (l5 : Int32) (x1 x6 : Value) (σ : xM) (y : Int32 × xM), f229_169 K38 n l0 l2 l3 l4 l5 σ = some y → Rn (d + 2) 229 169 [.ref l0, x1, .int l2, .int l3, .int l4, .int l5, x6] [] σ (some (.int y.1), y.2) := by
  intro n
  induction n with
  | zero => intro l0 l2 l3 l4 l5 x1 x6 σ y h; cases h
  | succ n ih =>
    intro l0 l2 l3 l4 l5 x1 x6 σ y h
    unfold f229_169 at h
    refine rn_steps 2 173 [.ref l0, x1, .int l2, .int l3, .int l4, .int l5, x6] [.int 64, .int l5] rfl ?_
    refine rn_br (c := 64 ≤ l5) rfl rfl decide_eq_true_iff (fun hb => ?_) (fun hb => ?_)
    · rw [if_pos hb] at h
      refine rn_steps 0 196 [.ref l0, x1, .int l2, .int l3, .int l4, .int l5, x6] [] rfl ?_
      exact e229_196 d _ hK38 _ _ _ _ _ _ _ _ _ h
    · rw [if_neg hb] at h
      refine rn_steps 1 177 [.ref l0, x1, .int l2, .int l3, .int l4, .int l5, x6] [.ref l0] rfl ?_
      obtain ⟨r1, hr1, h⟩ := Option.bind_eq_some_iff.mp h
      refine rn_gR (c := 9) (f := 27) rfl rfl ⟨⟨rfl, rfl⟩, rfl⟩ hr1 ?_
      refine rn_steps 2 183 [.ref l0, x1, .int l2, .int l3, .int l4, .int l5, x6] [.ref l0, .int l5, .ref r1] rfl ?_
      obtain ⟨r2, hr2, h⟩ := Option.bind_eq_some_iff.mp h
      refine rn_gR (c := 9) (f := 28) rfl rfl ⟨⟨rfl, rfl⟩, rfl⟩ hr2 ?_
      refine rn_steps 1 188 [.ref l0, x1, .int l2, .int l3, .int l4, .int l5, x6] [.int l5, .ref r2, .int l5, .ref r1] rfl ?_
      obtain ⟨v3, hv3, h⟩ := Option.bind_eq_some_iff.mp h
      refine rn_aI rfl hv3 ?_
      refine rn_steps 0 189 [.ref l0, x1, .int l2, .int l3, .int l4, .int l5, x6] [.int v3, .int l5, .ref r1] rfl ?_
      obtain ⟨σ4, hσ4, h⟩ := Option.bind_eq_some_iff.mp h
      refine rn_tI rfl hσ4 ?_
      refine rn_steps 2 169 [.ref l0, x1, .int l2, .int l3, .int l4, .int (l5 + 1), x6] [] rfl ?_
      exact ih _ _ _ _ _ _ _ _ _ h
def f229_166 (K38 : Nat → Int32 → Int32 → Int32 → xM → Option (Int32 × xM)) (l0 : Nat) (l2 : Int32) (l3 : Int32) (l4 : Int32) (σ : xM) : Option (Int32 × xM) :=
  f229_169 K38 1100 l0 l2 l3 l4 0 σ
set_option maxRecDepth 20000 in
set_option maxHeartbeats 1000000 in
theorem e229_166 (d : Nat) (K38 : Nat → Int32 → Int32 → Int32 → xM → Option (Int32 × xM)) (hK38 : ∀ (l0 : Nat) (l2 : Int32) (l3 : Int32) (l4 : Int32) (x1 x5 x6 : Value) (σ : xM) (y : Int32 × xM), K38 l0 l2 l3 l4 σ = some y → Rn (d + 2) 229 38 [.ref l0, x1, .int l2, .int l3, .int l4, x5, x6] [] σ (some (.int y.1), y.2)) (l0 : Nat) (l2 : Int32) (l3 : Int32) (l4 : Int32) (x1 x5 x6 : Value) (σ : xM) (y : Int32 × xM) (h : f229_166 K38 l0 l2 l3 l4 σ = some y) : Rn (d + 2) 229 166 [.ref l0, x1, .int l2, .int l3, .int l4, x5, x6] [] σ (some (.int y.1), y.2) := by
  unfold f229_166 at h
  refine rn_steps 2 169 [.ref l0, x1, .int l2, .int l3, .int l4, .int 0, x6] [] rfl ?_
  exact e229_169 d _ hK38 1100 _ _ _ _ _ _ _ _ _ h
def f229_160 (K38 : Nat → Int32 → Int32 → Int32 → xM → Option (Int32 × xM)) (K109 : Nat → Int32 → Int32 → Int32 → Int32 → xM → Option (Int32 × xM)) (l0 : Nat) (l2 : Int32) (l3 : Int32) (l4 : Int32) (l5 : Int32) (σ : xM) : Option (Int32 × xM) :=
  K109 l0 l2 l3 l4 (l5 + 1) σ
set_option maxRecDepth 20000 in
set_option maxHeartbeats 1000000 in
theorem e229_160 (d : Nat) (K38 : Nat → Int32 → Int32 → Int32 → xM → Option (Int32 × xM)) (hK38 : ∀ (l0 : Nat) (l2 : Int32) (l3 : Int32) (l4 : Int32) (x1 x5 x6 : Value) (σ : xM) (y : Int32 × xM), K38 l0 l2 l3 l4 σ = some y → Rn (d + 2) 229 38 [.ref l0, x1, .int l2, .int l3, .int l4, x5, x6] [] σ (some (.int y.1), y.2)) (K109 : Nat → Int32 → Int32 → Int32 → Int32 → xM → Option (Int32 × xM)) (hK109 : ∀ (l0 : Nat) (l2 : Int32) (l3 : Int32) (l4 : Int32) (l5 : Int32) (x1 x6 : Value) (σ : xM) (y : Int32 × xM), K109 l0 l2 l3 l4 l5 σ = some y → Rn (d + 2) 229 109 [.ref l0, x1, .int l2, .int l3, .int l4, .int l5, x6] [] σ (some (.int y.1), y.2)) (l0 : Nat) (l2 : Int32) (l3 : Int32) (l4 : Int32) (l5 : Int32) (x1 x6 : Value) (σ : xM) (y : Int32 × xM) (h : f229_160 K38 K109 l0 l2 l3 l4 l5 σ = some y) : Rn (d + 2) 229 160 [.ref l0, x1, .int l2, .int l3, .int l4, .int l5, x6] [] σ (some (.int y.1), y.2) := by
  unfold f229_160 at h
  refine rn_steps 2 109 [.ref l0, x1, .int l2, .int l3, .int l4, .int (l5 + 1), x6] [] rfl ?_
  exact hK109 _ _ _ _ _ _ _ _ _ h
def f229_154 (K38 : Nat → Int32 → Int32 → Int32 → xM → Option (Int32 × xM)) (K109 : Nat → Int32 → Int32 → Int32 → Int32 → xM → Option (Int32 × xM)) (K119 : Nat → Int32 → Int32 → Int32 → Int32 → Int32 → xM → Option (Int32 × xM)) (l0 : Nat) (l2 : Int32) (l3 : Int32) (l4 : Int32) (l5 : Int32) (l6 : Int32) (σ : xM) : Option (Int32 × xM) :=
  K119 l0 l2 l3 l4 l5 (l6 + 1) σ
set_option maxRecDepth 20000 in
set_option maxHeartbeats 1000000 in
theorem e229_154 (d : Nat) (K38 : Nat → Int32 → Int32 → Int32 → xM → Option (Int32 × xM)) (hK38 : ∀ (l0 : Nat) (l2 : Int32) (l3 : Int32) (l4 : Int32) (x1 x5 x6 : Value) (σ : xM) (y : Int32 × xM), K38 l0 l2 l3 l4 σ = some y → Rn (d + 2) 229 38 [.ref l0, x1, .int l2, .int l3, .int l4, x5, x6] [] σ (some (.int y.1), y.2)) (K109 : Nat → Int32 → Int32 → Int32 → Int32 → xM → Option (Int32 × xM)) (hK109 : ∀ (l0 : Nat) (l2 : Int32) (l3 : Int32) (l4 : Int32) (l5 : Int32) (x1 x6 : Value) (σ : xM) (y : Int32 × xM), K109 l0 l2 l3 l4 l5 σ = some y → Rn (d + 2) 229 109 [.ref l0, x1, .int l2, .int l3, .int l4, .int l5, x6] [] σ (some (.int y.1), y.2)) (K119 : Nat → Int32 → Int32 → Int32 → Int32 → Int32 → xM → Option (Int32 × xM)) (hK119 : ∀ (l0 : Nat) (l2 : Int32) (l3 : Int32) (l4 : Int32) (l5 : Int32) (l6 : Int32) (x1 : Value) (σ : xM) (y : Int32 × xM), K119 l0 l2 l3 l4 l5 l6 σ = some y → Rn (d + 2) 229 119 [.ref l0, x1, .int l2, .int l3, .int l4, .int l5, .int l6] [] σ (some (.int y.1), y.2)) (l0 : Nat) (l2 : Int32) (l3 : Int32) (l4 : Int32) (l5 : Int32) (l6 : Int32) (x1 : Value) (σ : xM) (y : Int32 × xM) (h : f229_154 K38 K109 K119 l0 l2 l3 l4 l5 l6 σ = some y) : Rn (d + 2) 229 154 [.ref l0, x1, .int l2, .int l3, .int l4, .int l5, .int l6] [] σ (some (.int y.1), y.2) := by
  unfold f229_154 at h
  refine rn_steps 2 119 [.ref l0, x1, .int l2, .int l3, .int l4, .int l5, .int (l6 + 1)] [] rfl ?_
  exact hK119 _ _ _ _ _ _ _ _ _ h
def f229_119 (K38 : Nat → Int32 → Int32 → Int32 → xM → Option (Int32 × xM)) (K109 : Nat → Int32 → Int32 → Int32 → Int32 → xM → Option (Int32 × xM)) : Nat → Nat → Int32 → Int32 → Int32 → Int32 → Int32 → xM → Option (Int32 × xM)
  | 0, _, _, _, _, _, _, _ => none
  | n + 1, l0, l2, l3, l4, l5, l6, σ =>
    (gR σ l0 9 3).bind fun r1 =>
    (gI σ r1 8 2).bind fun v2 =>
    if v2 ≤ l6 then
    f229_160 K38 K109 l0 l2 l3 l4 l5 σ
    else
    (gR σ l0 9 27).bind fun r3 =>
    (aI σ r3 l5).bind fun v4 =>
    (f157 v4 l6 σ).bind fun y5 =>
    if y5.1 = 0 then
    f229_154 K38 K109 (f229_119 K38 K109 n) l0 l2 l3 l4 l5 l6 y5.2
    else
    (cO y5.2 l0 9).bind fun u7 =>
    (f230 l0 l5 l6 y5.2).bind fun y6 =>
    f229_154 K38 K109 (f229_119 K38 K109 n) l0 l2 l3 l4 l5 l6 y6
set_option maxRecDepth 20000 in
set_option maxHeartbeats 1000000 in
theorem e229_119 (d : Nat) (K38 : Nat → Int32 → Int32 → Int32 → xM → Option (Int32 × xM)) (hK38 : ∀ (l0 : Nat) (l2 : Int32) (l3 : Int32) (l4 : Int32) (x1 x5 x6 : Value) (σ : xM) (y : Int32 × xM), K38 l0 l2 l3 l4 σ = some y → Rn (d + 2) 229 38 [.ref l0, x1, .int l2, .int l3, .int l4, x5, x6] [] σ (some (.int y.1), y.2)) (K109 : Nat → Int32 → Int32 → Int32 → Int32 → xM → Option (Int32 × xM)) (hK109 : ∀ (l0 : Nat) (l2 : Int32) (l3 : Int32) (l4 : Int32) (l5 : Int32) (x1 x6 : Value) (σ : xM) (y : Int32 × xM), K109 l0 l2 l3 l4 l5 σ = some y → Rn (d + 2) 229 109 [.ref l0, x1, .int l2, .int l3, .int l4, .int l5, x6] [] σ (some (.int y.1), y.2)) : ∀ (n : Nat) (l0 : Nat) (l2 : Int32) (l3 : Int32) (l4 : Int32) (l5 : Int32) (l6 : Int32) (x1 : Value) (σ : xM) (y : Int32 × xM), f229_119 K38 K109 n l0 l2 l3 l4 l5 l6 σ = some y → Rn (d + 2) 229 119 [.ref l0, x1, .int l2, .int l3, .int l4, .int l5, .int l6] [] σ (some (.int y.1), y.2) := by
  intro n
  induction n with
  | zero => intro l0 l2 l3 l4 l5 l6 x1 σ y h; cases h
  | succ n ih =>
    intro l0 l2 l3 l4 l5 l6 x1 σ y h
    unfold f229_119 at h
    refine rn_steps 2 122 [.ref l0, x1, .int l2, .int l3, .int l4, .int l5, .int l6] [.ref l0, .int l6] rfl ?_
    obtain ⟨r1, hr1, h⟩ := Option.bind_eq_some_iff.mp h
    refine rn_gR (c := 9) (f := 3) rfl rfl ⟨⟨rfl, rfl⟩, rfl⟩ hr1 ?_
    refine rn_steps 0 125 [.ref l0, x1, .int l2, .int l3, .int l4, .int l5, .int l6] [.ref r1, .int l6] rfl ?_
    obtain ⟨v2, hv2, h⟩ := Option.bind_eq_some_iff.mp h
    refine rn_gI (c := 8) (f := 2) rfl rfl ⟨⟨rfl, rfl⟩, Or.inl rfl⟩ hv2 ?_
    refine rn_steps 0 128 [.ref l0, x1, .int l2, .int l3, .int l4, .int l5, .int l6] [.int v2, .int l6] rfl ?_
    refine rn_br (c := v2 ≤ l6) rfl rfl decide_eq_true_iff (fun hb => ?_) (fun hb => ?_)
    · rw [if_pos hb] at h
      refine rn_steps 0 160 [.ref l0, x1, .int l2, .int l3, .int l4, .int l5, .int l6] [] rfl ?_
      exact e229_160 d _ hK38 _ hK109 _ _ _ _ _ _ _ _ _ h
    · rw [if_neg hb] at h
      refine rn_steps 1 132 [.ref l0, x1, .int l2, .int l3, .int l4, .int l5, .int l6] [.ref l0] rfl ?_
      obtain ⟨r3, hr3, h⟩ := Option.bind_eq_some_iff.mp h
      refine rn_gR (c := 9) (f := 27) rfl rfl ⟨⟨rfl, rfl⟩, rfl⟩ hr3 ?_
      refine rn_steps 1 137 [.ref l0, x1, .int l2, .int l3, .int l4, .int l5, .int l6] [.int l5, .ref r3] rfl ?_
      obtain ⟨v4, hv4, h⟩ := Option.bind_eq_some_iff.mp h
      refine rn_aI rfl hv4 ?_
      refine rn_steps 1 140 [.ref l0, x1, .int l2, .int l3, .int l4, .int l5, .int l6] [.int l6, .int v4] rfl ?_
      obtain ⟨y5, hy5, h⟩ := Option.bind_eq_some_iff.mp h
      refine rn_callS [.int v4, .int l6] rfl rfl rfl ⟨rfl, rfl, rfl⟩ rfl rfl (e157 (d + 1) hy5) ?_
      refine rn_steps 0 143 [.ref l0, x1, .int l2, .int l3, .int l4, .int l5, .int l6] [.int y5.1] rfl ?_
      refine rn_br (c := y5.1 = 0) rfl rfl decide_eq_true_iff (fun hb => ?_) (fun hb => ?_)
      · rw [if_pos hb] at h
        refine rn_steps 0 154 [.ref l0, x1, .int l2, .int l3, .int l4, .int l5, .int l6] [] rfl ?_
        exact e229_154 d _ hK38 _ hK109 _ ih _ _ _ _ _ _ _ _ _ h
      · rw [if_neg hb] at h
        refine rn_steps 3 151 [.ref l0, x1, .int l2, .int l3, .int l4, .int l5, .int l6] [.int l6, .int l5, .ref l0] rfl ?_
        obtain ⟨u7, hu7, h⟩ := Option.bind_eq_some_iff.mp h
        obtain ⟨y6, hy6, h⟩ := Option.bind_eq_some_iff.mp h
        refine rn_callV [.int l5, .int l6] rfl rfl ⟨rfl, rfl⟩ hu7 rfl rfl (e230 d hy6) ?_
        refine rn_steps 0 154 [.ref l0, x1, .int l2, .int l3, .int l4, .int l5, .int l6] [] rfl ?_
        exact e229_154 d _ hK38 _ hK109 _ ih _ _ _ _ _ _ _ _ _ h
def f229_109 (K38 : Nat → Int32 → Int32 → Int32 → xM → Option (Int32 × xM)) : Nat → Nat → Int32 → Int32 → Int32 → Int32 → xM → Option (Int32 × xM)
  | 0, _, _, _, _, _, _ => none
  | n + 1, l0, l2, l3, l4, l5, σ =>
    if 64 ≤ l5 then
    f229_166 K38 l0 l2 l3 l4 σ
    else
    f229_119 K38 (f229_109 K38 n) 1100 l0 l2 l3 l4 l5 0 σ
set_option maxRecDepth 20000 in
set_option maxHeartbeats 1000000 in
theorem e229_109 (d : Nat) (K38 : Nat → Int32 → Int32 → Int32 → xM → Option (Int32 × xM)) (hK38 : ∀ (l0 : Nat) (l2 : Int32) (l3 : Int32) (l4 : Int32) (x1 x5 x6 : Value) (σ : xM) (y : Int32 × xM), K38 l0 l2 l3 l4 σ = some y → Rn (d + 2) 229 38 [.ref l0, x1, .int l2, .int l3, .int l4, x5, x6] [] σ (some (.int y.1), y.2)) : ∀ (n : Nat) (l0 : Nat) (l2 : Int32) (l3 : Int32) (l4 : Int32) (l5 : Int32) (x1 x6 : Value) (σ : xM) (y : Int32 × xM), f229_109 K38 n l0 l2 l3 l4 l5 σ = some y → Rn (d + 2) 229 109 [.ref l0, x1, .int l2, .int l3, .int l4, .int l5, x6] [] σ (some (.int y.1), y.2) := by
  intro n
  induction n with
  | zero => intro l0 l2 l3 l4 l5 x1 x6 σ y h; cases h
  | succ n ih =>
    intro l0 l2 l3 l4 l5 x1 x6 σ y h
    unfold f229_109 at h
    refine rn_steps 2 113 [.ref l0, x1, .int l2, .int l3, .int l4, .int l5, x6] [.int 64, .int l5] rfl ?_
    refine rn_br (c := 64 ≤ l5) rfl rfl decide_eq_true_iff (fun hb => ?_) (fun hb => ?_)
    · rw [if_pos hb] at h
      refine rn_steps 0 166 [.ref l0, x1, .int l2, .int l3, .int l4, .int l5, x6] [] rfl ?_
      exact e229_166 d _ hK38 _ _ _ _ _ _ _ _ _ h
    · rw [if_neg hb] at h
      refine rn_steps 2 119 [.ref l0, x1, .int l2, .int l3, .int l4, .int l5, .int 0] [] rfl ?_
      exact e229_119 d _ hK38 _ ih 1100 _ _ _ _ _ _ _ _ _ h
def f229_106 (K38 : Nat → Int32 → Int32 → Int32 → xM → Option (Int32 × xM)) (l0 : Nat) (l2 : Int32) (l3 : Int32) (l4 : Int32) (σ : xM) : Option (Int32 × xM) :=
  f229_109 K38 1100 l0 l2 l3 l4 0 σ
set_option maxRecDepth 20000 in
set_option maxHeartbeats 1000000 in
theorem e229_106 (d : Nat) (K38 : Nat → Int32 → Int32 → Int32 → xM → Option (Int32 × xM)) (hK38 : ∀ (l0 : Nat) (l2 : Int32) (l3 : Int32) (l4 : Int32) (x1 x5 x6 : Value) (σ : xM) (y : Int32 × xM), K38 l0 l2 l3 l4 σ = some y → Rn (d + 2) 229 38 [.ref l0, x1, .int l2, .int l3, .int l4, x5, x6] [] σ (some (.int y.1), y.2)) (l0 : Nat) (l2 : Int32) (l3 : Int32) (l4 : Int32) (x1 x5 x6 : Value) (σ : xM) (y : Int32 × xM) (h : f229_106 K38 l0 l2 l3 l4 σ = some y) : Rn (d + 2) 229 106 [.ref l0, x1, .int l2, .int l3, .int l4, x5, x6] [] σ (some (.int y.1), y.2) := by
  unfold f229_106 at h
  refine rn_steps 2 109 [.ref l0, x1, .int l2, .int l3, .int l4, .int 0, x6] [] rfl ?_
  exact e229_109 d _ hK38 1100 _ _ _ _ _ _ _ _ _ h
def f229_85 (K38 : Nat → Int32 → Int32 → Int32 → xM → Option (Int32 × xM)) : Nat → Nat → Int32 → Int32 → Int32 → Int32 → xM → Option (Int32 × xM)
  | 0, _, _, _, _, _, _ => none
  | n + 1, l0, l2, l3, l4, l5, σ =>
    if 64 ≤ l5 then
    f229_106 K38 l0 l2 l3 l4 σ
    else
    (gR σ l0 9 28).bind fun r1 =>
    (tI σ r1 l5 0).bind fun σ2 =>
    (f229_85 K38 n) l0 l2 l3 l4 (l5 + 1) σ2
set_option maxRecDepth 20000 in
set_option maxHeartbeats 1000000 in
theorem e229_85 (d : Nat) (K38 : Nat → Int32 → Int32 → Int32 → xM → Option (Int32 × xM)) (hK38 : ∀ (l0 : Nat) (l2 : Int32) (l3 : Int32) (l4 : Int32) (x1 x5 x6 : Value) (σ : xM) (y : Int32 × xM), K38 l0 l2 l3 l4 σ = some y → Rn (d + 2) 229 38 [.ref l0, x1, .int l2, .int l3, .int l4, x5, x6] [] σ (some (.int y.1), y.2)) : ∀ (n : Nat) (l0 : Nat) (l2 : Int32) (l3 : Int32) (l4 : Int32) (l5 : Int32) (x1 x6 : Value) (σ : xM) (y : Int32 × xM), f229_85 K38 n l0 l2 l3 l4 l5 σ = some y → Rn (d + 2) 229 85 [.ref l0, x1, .int l2, .int l3, .int l4, .int l5, x6] [] σ (some (.int y.1), y.2) := by
  intro n
  induction n with
  | zero => intro l0 l2 l3 l4 l5 x1 x6 σ y h; cases h
  | succ n ih =>
    intro l0 l2 l3 l4 l5 x1 x6 σ y h
    unfold f229_85 at h
    refine rn_steps 2 89 [.ref l0, x1, .int l2, .int l3, .int l4, .int l5, x6] [.int 64, .int l5] rfl ?_
    refine rn_br (c := 64 ≤ l5) rfl rfl decide_eq_true_iff (fun hb => ?_) (fun hb => ?_)
    · rw [if_pos hb] at h
      refine rn_steps 0 106 [.ref l0, x1, .int l2, .int l3, .int l4, .int l5, x6] [] rfl ?_
      exact e229_106 d _ hK38 _ _ _ _ _ _ _ _ _ h
    · rw [if_neg hb] at h
      refine rn_steps 1 93 [.ref l0, x1, .int l2, .int l3, .int l4, .int l5, x6] [.ref l0] rfl ?_
      obtain ⟨r1, hr1, h⟩ := Option.bind_eq_some_iff.mp h
      refine rn_gR (c := 9) (f := 28) rfl rfl ⟨⟨rfl, rfl⟩, rfl⟩ hr1 ?_
      refine rn_steps 2 99 [.ref l0, x1, .int l2, .int l3, .int l4, .int l5, x6] [.int 0, .int l5, .ref r1] rfl ?_
      obtain ⟨σ2, hσ2, h⟩ := Option.bind_eq_some_iff.mp h
      refine rn_tI rfl hσ2 ?_
      refine rn_steps 2 85 [.ref l0, x1, .int l2, .int l3, .int l4, .int (l5 + 1), x6] [] rfl ?_
      exact ih _ _ _ _ _ _ _ _ _ h
def f229_82 (K38 : Nat → Int32 → Int32 → Int32 → xM → Option (Int32 × xM)) (l0 : Nat) (l2 : Int32) (l3 : Int32) (l4 : Int32) (σ : xM) : Option (Int32 × xM) :=
  f229_85 K38 1100 l0 l2 l3 l4 0 σ
set_option maxRecDepth 20000 in
set_option maxHeartbeats 1000000 in
theorem e229_82 (d : Nat) (K38 : Nat → Int32 → Int32 → Int32 → xM → Option (Int32 × xM)) (hK38 : ∀ (l0 : Nat) (l2 : Int32) (l3 : Int32) (l4 : Int32) (x1 x5 x6 : Value) (σ : xM) (y : Int32 × xM), K38 l0 l2 l3 l4 σ = some y → Rn (d + 2) 229 38 [.ref l0, x1, .int l2, .int l3, .int l4, x5, x6] [] σ (some (.int y.1), y.2)) (l0 : Nat) (l2 : Int32) (l3 : Int32) (l4 : Int32) (x1 x5 x6 : Value) (σ : xM) (y : Int32 × xM) (h : f229_82 K38 l0 l2 l3 l4 σ = some y) : Rn (d + 2) 229 82 [.ref l0, x1, .int l2, .int l3, .int l4, x5, x6] [] σ (some (.int y.1), y.2) := by
  unfold f229_82 at h
  refine rn_steps 2 85 [.ref l0, x1, .int l2, .int l3, .int l4, .int 0, x6] [] rfl ?_
  exact e229_85 d _ hK38 1100 _ _ _ _ _ _ _ _ _ h
def f229_76 (K38 : Nat → Int32 → Int32 → Int32 → xM → Option (Int32 × xM)) (K47 : Nat → Int32 → Int32 → Int32 → Int32 → xM → Option (Int32 × xM)) (l0 : Nat) (l2 : Int32) (l3 : Int32) (l4 : Int32) (l5 : Int32) (σ : xM) : Option (Int32 × xM) :=
  K47 l0 l2 l3 l4 (l5 + 1) σ
set_option maxRecDepth 20000 in
set_option maxHeartbeats 1000000 in
theorem e229_76 (d : Nat) (K38 : Nat → Int32 → Int32 → Int32 → xM → Option (Int32 × xM)) (hK38 : ∀ (l0 : Nat) (l2 : Int32) (l3 : Int32) (l4 : Int32) (x1 x5 x6 : Value) (σ : xM) (y : Int32 × xM), K38 l0 l2 l3 l4 σ = some y → Rn (d + 2) 229 38 [.ref l0, x1, .int l2, .int l3, .int l4, x5, x6] [] σ (some (.int y.1), y.2)) (K47 : Nat → Int32 → Int32 → Int32 → Int32 → xM → Option (Int32 × xM)) (hK47 : ∀ (l0 : Nat) (l2 : Int32) (l3 : Int32) (l4 : Int32) (l5 : Int32) (x1 x6 : Value) (σ : xM) (y : Int32 × xM), K47 l0 l2 l3 l4 l5 σ = some y → Rn (d + 2) 229 47 [.ref l0, x1, .int l2, .int l3, .int l4, .int l5, x6] [] σ (some (.int y.1), y.2)) (l0 : Nat) (l2 : Int32) (l3 : Int32) (l4 : Int32) (l5 : Int32) (x1 x6 : Value) (σ : xM) (y : Int32 × xM) (h : f229_76 K38 K47 l0 l2 l3 l4 l5 σ = some y) : Rn (d + 2) 229 76 [.ref l0, x1, .int l2, .int l3, .int l4, .int l5, x6] [] σ (some (.int y.1), y.2) := by
  unfold f229_76 at h
  refine rn_steps 2 47 [.ref l0, x1, .int l2, .int l3, .int l4, .int (l5 + 1), x6] [] rfl ?_
  exact hK47 _ _ _ _ _ _ _ _ _ h
def f229_47 (K38 : Nat → Int32 → Int32 → Int32 → xM → Option (Int32 × xM)) : Nat → Nat → Int32 → Int32 → Int32 → Int32 → xM → Option (Int32 × xM)
  | 0, _, _, _, _, _, _ => none
  | n + 1, l0, l2, l3, l4, l5, σ =>
    if 64 ≤ l5 then
    f229_82 K38 l0 l2 l3 l4 σ
    else
    (gR σ l0 9 27).bind fun r1 =>
    (aI σ r1 l5).bind fun v2 =>
    if v2 = 0 then
    f229_76 K38 (f229_47 K38 n) l0 l2 l3 l4 l5 σ
    else
    if (l2 &&& (l5 ^^^ (-1))) = 0 then
    some (l4, σ)
    else
    f229_76 K38 (f229_47 K38 n) l0 l2 l3 l4 l5 σ
set_option maxRecDepth 20000 in
set_option maxHeartbeats 1000000 in
theorem e229_47 (d : Nat) (K38 : Nat → Int32 → Int32 → Int32 → xM → Option (Int32 × xM)) (hK38 : ∀ (l0 : Nat) (l2 : Int32) (l3 : Int32) (l4 : Int32) (x1 x5 x6 : Value) (σ : xM) (y : Int32 × xM), K38 l0 l2 l3 l4 σ = some y → Rn (d + 2) 229 38 [.ref l0, x1, .int l2, .int l3, .int l4, x5, x6] [] σ (some (.int y.1), y.2)) : ∀ (n : Nat) (l0 : Nat) (l2 : Int32) (l3 : Int32) (l4 : Int32) (l5 : Int32) (x1 x6 : Value) (σ : xM) (y : Int32 × xM), f229_47 K38 n l0 l2 l3 l4 l5 σ = some y → Rn (d + 2) 229 47 [.ref l0, x1, .int l2, .int l3, .int l4, .int l5, x6] [] σ (some (.int y.1), y.2) := by
  intro n
  induction n with
  | zero => intro l0 l2 l3 l4 l5 x1 x6 σ y h; cases h
  | succ n ih =>
    intro l0 l2 l3 l4 l5 x1 x6 σ y h
    unfold f229_47 at h
    refine rn_steps 2 51 [.ref l0, x1, .int l2, .int l3, .int l4, .int l5, x6] [.int 64, .int l5] rfl ?_
    refine rn_br (c := 64 ≤ l5) rfl rfl decide_eq_true_iff (fun hb => ?_) (fun hb => ?_)
    · rw [if_pos hb] at h
      refine rn_steps 0 82 [.ref l0, x1, .int l2, .int l3, .int l4, .int l5, x6] [] rfl ?_
      exact e229_82 d _ hK38 _ _ _ _ _ _ _ _ _ h
    · rw [if_neg hb] at h
      refine rn_steps 1 55 [.ref l0, x1, .int l2, .int l3, .int l4, .int l5, x6] [.ref l0] rfl ?_
      obtain ⟨r1, hr1, h⟩ := Option.bind_eq_some_iff.mp h
      refine rn_gR (c := 9) (f := 27) rfl rfl ⟨⟨rfl, rfl⟩, rfl⟩ hr1 ?_
      refine rn_steps 1 60 [.ref l0, x1, .int l2, .int l3, .int l4, .int l5, x6] [.int l5, .ref r1] rfl ?_
      obtain ⟨v2, hv2, h⟩ := Option.bind_eq_some_iff.mp h
      refine rn_aI rfl hv2 ?_
      refine rn_steps 0 61 [.ref l0, x1, .int l2, .int l3, .int l4, .int l5, x6] [.int v2] rfl ?_
      refine rn_br (c := v2 = 0) rfl rfl decide_eq_true_iff (fun hb => ?_) (fun hb => ?_)
      · rw [if_pos hb] at h
        refine rn_steps 0 76 [.ref l0, x1, .int l2, .int l3, .int l4, .int l5, x6] [] rfl ?_
        exact e229_76 d _ hK38 _ ih _ _ _ _ _ _ _ _ _ h
      · rw [if_neg hb] at h
        refine rn_steps 5 70 [.ref l0, x1, .int l2, .int l3, .int l4, .int l5, x6] [.int (l2 &&& (l5 ^^^ (-1)))] rfl ?_
        refine rn_br (c := ¬ (l2 &&& (l5 ^^^ (-1))) = 0) rfl rfl decide_eq_true_iff (fun hb => ?_) (fun hb => ?_)
        · rw [if_neg hb] at h
          refine rn_steps 0 76 [.ref l0, x1, .int l2, .int l3, .int l4, .int l5, x6] [] rfl ?_
          exact e229_76 d _ hK38 _ ih _ _ _ _ _ _ _ _ _ h
        · rw [if_pos (Decidable.not_not.mp hb)] at h
          refine rn_steps 1 75 [.ref l0, x1, .int l2, .int l3, .int l4, .int l5, x6] [.int l4] rfl ?_
          cases h
          exact rn_ret rfl rfl rfl
def f229_38 : Nat → Nat → Int32 → Int32 → Int32 → xM → Option (Int32 × xM)
  | 0, _, _, _, _, _ => none
  | n + 1, l0, l2, l3, l4, σ =>
    if l3 < l4 then
    f229_202 σ
    else
    f229_47 (f229_38 n) 1100 l0 l2 l3 l4 0 σ
set_option maxRecDepth 20000 in
set_option maxHeartbeats 1000000 in
theorem e229_38 (d : Nat) : ∀ (n : Nat) (l0 : Nat) (l2 : Int32) (l3 : Int32) (l4 : Int32) (x1 x5 x6 : Value) (σ : xM) (y : Int32 × xM), f229_38 n l0 l2 l3 l4 σ = some y → Rn (d + 2) 229 38 [.ref l0, x1, .int l2, .int l3, .int l4, x5, x6] [] σ (some (.int y.1), y.2) := by
  intro n
  induction n with
  | zero => intro l0 l2 l3 l4 x1 x5 x6 σ y h; cases h
  | succ n ih =>
    intro l0 l2 l3 l4 x1 x5 x6 σ y h
    unfold f229_38 at h
    refine rn_steps 2 41 [.ref l0, x1, .int l2, .int l3, .int l4, x5, x6] [.int l3, .int l4] rfl ?_
    refine rn_br (c := l3 < l4) rfl rfl decide_eq_true_iff (fun hb => ?_) (fun hb => ?_)
    · rw [if_pos hb] at h
      refine rn_steps 0 202 [.ref l0, x1, .int l2, .int l3, .int l4, x5, x6] [] rfl ?_
      exact e229_202 d _ _ _ _ _ _ _ _ _ h
    · rw [if_neg hb] at h
      refine rn_steps 2 47 [.ref l0, x1, .int l2, .int l3, .int l4, .int 0, x6] [] rfl ?_
      exact e229_47 d _ ih 1100 _ _ _ _ _ _ _ _ _ h
def f229_24 (l0 : Nat) (l1 : Int32) (l2 : Int32) (l3 : Int32) (σ : xM) : Option (Int32 × xM) :=
  (gR σ l0 9 27).bind fun r1 =>
  (tI σ r1 (1 <<< (l1 &&& 31)) (1 <<< (l1 &&& 31))).bind fun σ2 =>
  f229_38 1100 l0 l2 l3 0 σ2
set_option maxRecDepth 20000 in
set_option maxHeartbeats 1000000 in
theorem e229_24 (d : Nat) (l0 : Nat) (l1 : Int32) (l2 : Int32) (l3 : Int32) (x4 x5 x6 : Value) (σ : xM) (y : Int32 × xM) (h : f229_24 l0 l1 l2 l3 σ = some y) : Rn (d + 2) 229 24 [.ref l0, .int l1, .int l2, .int l3, x4, x5, x6] [] σ (some (.int y.1), y.2) := by
  unfold f229_24 at h
  refine rn_steps 1 25 [.ref l0, .int l1, .int l2, .int l3, x4, x5, x6] [.ref l0] rfl ?_
  obtain ⟨r1, hr1, h⟩ := Option.bind_eq_some_iff.mp h
  refine rn_gR (c := 9) (f := 27) rfl rfl ⟨⟨rfl, rfl⟩, rfl⟩ hr1 ?_
  refine rn_steps 6 34 [.ref l0, .int l1, .int l2, .int l3, x4, x5, x6] [.int (1 <<< (l1 &&& 31)), .int (1 <<< (l1 &&& 31)), .ref r1] rfl ?_
  obtain ⟨σ2, hσ2, h⟩ := Option.bind_eq_some_iff.mp h
  refine rn_tI rfl hσ2 ?_
  refine rn_steps 2 38 [.ref l0, .int l1, .int l2, .int l3, .int 0, x5, x6] [] rfl ?_
  exact e229_38 d 1100 _ _ _ _ _ _ _ _ _ h
def f229_3 : Nat → Nat → Int32 → Int32 → Int32 → Int32 → xM → Option (Int32 × xM)
  | 0, _, _, _, _, _, _ => none
  | n + 1, l0, l1, l2, l3, l4, σ =>
    if 64 ≤ l4 then
    f229_24 l0 l1 l2 l3 σ
    else
    (gR σ l0 9 27).bind fun r1 =>
    (tI σ r1 l4 0).bind fun σ2 =>
    (f229_3 n) l0 l1 l2 l3 (l4 + 1) σ2
set_option maxRecDepth 20000 in
set_option maxHeartbeats 1000000 in
theorem e229_3 (d : Nat) : ∀ (n : Nat) (l0 : Nat) (l1 : Int32) (l2 : Int32) (l3 : Int32) (l4 : Int32) (x5 x6 : Value) (σ : xM) (y : Int32 × xM), f229_3 n l0 l1 l2 l3 l4 σ = some y → Rn (d + 2) 229 3 [.ref l0, .int l1, .int l2, .int l3, .int l4, x5, x6] [] σ (some (.int y.1), y.2) := by
  intro n
  induction n with
  | zero => intro l0 l1 l2 l3 l4 x5 x6 σ y h; cases h
  | succ n ih =>
    intro l0 l1 l2 l3 l4 x5 x6 σ y h
    unfold f229_3 at h
    refine rn_steps 2 7 [.ref l0, .int l1, .int l2, .int l3, .int l4, x5, x6] [.int 64, .int l4] rfl ?_
    refine rn_br (c := 64 ≤ l4) rfl rfl decide_eq_true_iff (fun hb => ?_) (fun hb => ?_)
    · rw [if_pos hb] at h
      refine rn_steps 0 24 [.ref l0, .int l1, .int l2, .int l3, .int l4, x5, x6] [] rfl ?_
      exact e229_24 d _ _ _ _ _ _ _ _ _ h
    · rw [if_neg hb] at h
      refine rn_steps 1 11 [.ref l0, .int l1, .int l2, .int l3, .int l4, x5, x6] [.ref l0] rfl ?_
      obtain ⟨r1, hr1, h⟩ := Option.bind_eq_some_iff.mp h
      refine rn_gR (c := 9) (f := 27) rfl rfl ⟨⟨rfl, rfl⟩, rfl⟩ hr1 ?_
      refine rn_steps 2 17 [.ref l0, .int l1, .int l2, .int l3, .int l4, x5, x6] [.int 0, .int l4, .ref r1] rfl ?_
      obtain ⟨σ2, hσ2, h⟩ := Option.bind_eq_some_iff.mp h
      refine rn_tI rfl hσ2 ?_
      refine rn_steps 2 3 [.ref l0, .int l1, .int l2, .int l3, .int (l4 + 1), x5, x6] [] rfl ?_
      exact ih _ _ _ _ _ _ _ _ _ h
/-- LastAskedModel.hoursBy(III)I -/
def f229 (l0 : Nat) (l1 : Int32) (l2 : Int32) (l3 : Int32) (σ : xM) : Option (Int32 × xM) :=
  f229_3 1100 l0 l1 l2 l3 0 σ
set_option maxRecDepth 20000 in
set_option maxHeartbeats 1000000 in
theorem e229 (d : Nat) {l0 : Nat} {l1 : Int32} {l2 : Int32} {l3 : Int32} {σ : xM} {y : Int32 × xM} (h : f229 l0 l1 l2 l3 σ = some y) : Rn (d + 2) 229 0 [.ref l0, .int l1, .int l2, .int l3, .retAddr 0, .retAddr 0, .retAddr 0] [] σ (some (.int y.1), y.2) := by
  unfold f229 at h
  refine rn_steps 2 3 [.ref l0, .int l1, .int l2, .int l3, .int 0, .retAddr 0, .retAddr 0] [] rfl ?_
  exact e229_3 d 1100 _ _ _ _ _ _ _ _ _ h
def f231_136 (l4 : Int32) (σ : xM) : Option (Int32 × xM) :=
  some (l4, σ)
set_option maxRecDepth 20000 in
set_option maxHeartbeats 1000000 in
theorem e231_136 (d : Nat) (l4 : Int32) (x0 x1 x2 x3 x5 x6 x7 x8 x9 x10 : Value) (σ : xM) (y : Int32 × xM) (h : f231_136 l4 σ = some y) : Rn (d + 5) 231 136 [x0, x1, x2, x3, .int l4, x5, x6, x7, x8, x9, x10] [] σ (some (.int y.1), y.2) := by
  unfold f231_136 at h
  refine rn_steps 1 138 [x0, x1, x2, x3, .int l4, x5, x6, x7, x8, x9, x10] [.int l4] rfl ?_
  cases h
  exact rn_ret rfl rfl rfl
def f231_130 (K17 : Nat → Int32 → Int32 → Int32 → Int32 → Int64 → Int32 → xM → Option (Int32 × xM)) (l0 : Nat) (l1 : Int32) (l2 : Int32) (l3 : Int32) (l4 : Int32) (l5 : Int64) (l7 : Int32) (σ : xM) : Option (Int32 × xM) :=
  K17 l0 l1 l2 l3 l4 l5 (l7 + 1) σ
set_option maxRecDepth 20000 in
set_option maxHeartbeats 1000000 in
theorem e231_130 (d : Nat) (K17 : Nat → Int32 → Int32 → Int32 → Int32 → Int64 → Int32 → xM → Option (Int32 × xM)) (hK17 : ∀ (l0 : Nat) (l1 : Int32) (l2 : Int32) (l3 : Int32) (l4 : Int32) (l5 : Int64) (l7 : Int32) (x8 x9 x10 : Value) (σ : xM) (y : Int32 × xM), K17 l0 l1 l2 l3 l4 l5 l7 σ = some y → Rn (d + 5) 231 17 [.ref l0, .int l1, .int l2, .int l3, .int l4, .long l5, .retAddr 1, .int l7, x8, x9, x10] [] σ (some (.int y.1), y.2)) (l0 : Nat) (l1 : Int32) (l2 : Int32) (l3 : Int32) (l4 : Int32) (l5 : Int64) (l7 : Int32) (x8 x9 x10 : Value) (σ : xM) (y : Int32 × xM) (h : f231_130 K17 l0 l1 l2 l3 l4 l5 l7 σ = some y) : Rn (d + 5) 231 130 [.ref l0, .int l1, .int l2, .int l3, .int l4, .long l5, .retAddr 1, .int l7, x8, x9, x10] [] σ (some (.int y.1), y.2) := by
  unfold f231_130 at h
  refine rn_steps 2 17 [.ref l0, .int l1, .int l2, .int l3, .int l4, .long l5, .retAddr 1, .int (l7 + 1), x8, x9, x10] [] rfl ?_
  exact hK17 _ _ _ _ _ _ _ _ _ _ _ _ h
def f231_98 (K17 : Nat → Int32 → Int32 → Int32 → Int32 → Int64 → Int32 → xM → Option (Int32 × xM)) (l0 : Nat) (l1 : Int32) (l2 : Int32) (l3 : Int32) (l4 : Int32) (l5 : Int64) (l7 : Int32) (l8 : Int32) (σ : xM) : Option (Int32 × xM) :=
  (cO σ l0 9).bind fun u3 =>
  (f219 l0 l1 σ).bind fun y1 =>
  if 0 < (lg_cmp y1.1 l5) then
  (pI y1.2 l0 9 29 l8).bind fun σ2 =>
  f231_130 K17 l0 l1 l2 l3 l7 y1.1 l7 σ2
  else
  f231_130 K17 l0 l1 l2 l3 l4 l5 l7 y1.2
set_option maxRecDepth 20000 in
set_option maxHeartbeats 1000000 in
theorem e231_98 (d : Nat) (K17 : Nat → Int32 → Int32 → Int32 → Int32 → Int64 → Int32 → xM → Option (Int32 × xM)) (hK17 : ∀ (l0 : Nat) (l1 : Int32) (l2 : Int32) (l3 : Int32) (l4 : Int32) (l5 : Int64) (l7 : Int32) (x8 x9 x10 : Value) (σ : xM) (y : Int32 × xM), K17 l0 l1 l2 l3 l4 l5 l7 σ = some y → Rn (d + 5) 231 17 [.ref l0, .int l1, .int l2, .int l3, .int l4, .long l5, .retAddr 1, .int l7, x8, x9, x10] [] σ (some (.int y.1), y.2)) (l0 : Nat) (l1 : Int32) (l2 : Int32) (l3 : Int32) (l4 : Int32) (l5 : Int64) (l7 : Int32) (l8 : Int32) (x9 x10 : Value) (σ : xM) (y : Int32 × xM) (h : f231_98 K17 l0 l1 l2 l3 l4 l5 l7 l8 σ = some y) : Rn (d + 5) 231 98 [.ref l0, .int l1, .int l2, .int l3, .int l4, .long l5, .retAddr 1, .int l7, .int l8, x9, x10] [] σ (some (.int y.1), y.2) := by
  unfold f231_98 at h
  refine rn_steps 2 100 [.ref l0, .int l1, .int l2, .int l3, .int l4, .long l5, .retAddr 1, .int l7, .int l8, x9, x10] [.int l1, .ref l0] rfl ?_
  obtain ⟨u3, hu3, h⟩ := Option.bind_eq_some_iff.mp h
  obtain ⟨y1, hy1, h⟩ := Option.bind_eq_some_iff.mp h
  refine rn_callV [.int l1] rfl rfl ⟨rfl, rfl⟩ hu3 rfl rfl (e219 d hy1) ?_
  refine rn_steps 4 110 [.ref l0, .int l1, .int l2, .int l3, .int l4, .long l5, .retAddr 1, .int l7, .int l8, .long y1.1, .retAddr 1] [.int (lg_cmp y1.1 l5)] rfl ?_
  refine rn_br (c := 0 < (lg_cmp y1.1 l5)) rfl rfl decide_eq_true_iff (fun hb => ?_) (fun hb => ?_)
  · rw [if_pos hb] at h
    refine rn_steps 6 127 [.ref l0, .int l1, .int l2, .int l3, .int l7, .long y1.1, .retAddr 1, .int l7, .int l8, .long y1.1, .retAddr 1] [.int l8, .ref l0] rfl ?_
    obtain ⟨σ2, hσ2, h⟩ := Option.bind_eq_some_iff.mp h
    refine rn_pI (c := 9) (f := 29) rfl rfl ⟨⟨rfl, rfl⟩, rfl⟩ hσ2 ?_
    refine rn_steps 0 130 [.ref l0, .int l1, .int l2, .int l3, .int l7, .long y1.1, .retAddr 1, .int l7, .int l8, .long y1.1, .retAddr 1] [] rfl ?_
    exact e231_130 d _ hK17 _ _ _ _ _ _ _ _ _ _ _ _ h
  · rw [if_neg hb] at h
    refine rn_steps 1 130 [.ref l0, .int l1, .int l2, .int l3, .int l4, .long l5, .retAddr 1, .int l7, .int l8, .long y1.1, .retAddr 1] [] rfl ?_
    exact e231_130 d _ hK17 _ _ _ _ _ _ _ _ _ _ _ _ h
def f231_92 (K17 : Nat → Int32 → Int32 → Int32 → Int32 → Int64 → Int32 → xM → Option (Int32 × xM)) (K63 : Nat → Int32 → Int32 → Int32 → Int32 → Int64 → Int32 → Int32 → Int32 → xM → Option (Int32 × xM)) (l0 : Nat) (l1 : Int32) (l2 : Int32) (l3 : Int32) (l4 : Int32) (l5 : Int64) (l7 : Int32) (l8 : Int32) (l9 : Int32) (σ : xM) : Option (Int32 × xM) :=
  K63 l0 l1 l2 l3 l4 l5 l7 l8 (l9 + 1) σ
set_option maxRecDepth 20000 in
set_option maxHeartbeats 1000000 in
theorem e231_92 (d : Nat) (K17 : Nat → Int32 → Int32 → Int32 → Int32 → Int64 → Int32 → xM → Option (Int32 × xM)) (hK17 : ∀ (l0 : Nat) (l1 : Int32) (l2 : Int32) (l3 : Int32) (l4 : Int32) (l5 : Int64) (l7 : Int32) (x8 x9 x10 : Value) (σ : xM) (y : Int32 × xM), K17 l0 l1 l2 l3 l4 l5 l7 σ = some y → Rn (d + 5) 231 17 [.ref l0, .int l1, .int l2, .int l3, .int l4, .long l5, .retAddr 1, .int l7, x8, x9, x10] [] σ (some (.int y.1), y.2)) (K63 : Nat → Int32 → Int32 → Int32 → Int32 → Int64 → Int32 → Int32 → Int32 → xM → Option (Int32 × xM)) (hK63 : ∀ (l0 : Nat) (l1 : Int32) (l2 : Int32) (l3 : Int32) (l4 : Int32) (l5 : Int64) (l7 : Int32) (l8 : Int32) (l9 : Int32) (x10 : Value) (σ : xM) (y : Int32 × xM), K63 l0 l1 l2 l3 l4 l5 l7 l8 l9 σ = some y → Rn (d + 5) 231 63 [.ref l0, .int l1, .int l2, .int l3, .int l4, .long l5, .retAddr 1, .int l7, .int l8, .int l9, x10] [] σ (some (.int y.1), y.2)) (l0 : Nat) (l1 : Int32) (l2 : Int32) (l3 : Int32) (l4 : Int32) (l5 : Int64) (l7 : Int32) (l8 : Int32) (l9 : Int32) (x10 : Value) (σ : xM) (y : Int32 × xM) (h : f231_92 K17 K63 l0 l1 l2 l3 l4 l5 l7 l8 l9 σ = some y) : Rn (d + 5) 231 92 [.ref l0, .int l1, .int l2, .int l3, .int l4, .long l5, .retAddr 1, .int l7, .int l8, .int l9, x10] [] σ (some (.int y.1), y.2) := by
  unfold f231_92 at h
  refine rn_steps 2 63 [.ref l0, .int l1, .int l2, .int l3, .int l4, .long l5, .retAddr 1, .int l7, .int l8, .int (l9 + 1), x10] [] rfl ?_
  exact hK63 _ _ _ _ _ _ _ _ _ _ _ _ h
def f231_63 (K17 : Nat → Int32 → Int32 → Int32 → Int32 → Int64 → Int32 → xM → Option (Int32 × xM)) : Nat → Nat → Int32 → Int32 → Int32 → Int32 → Int64 → Int32 → Int32 → Int32 → xM → Option (Int32 × xM)
  | 0, _, _, _, _, _, _, _, _, _, _ => none
  | n + 1, l0, l1, l2, l3, l4, l5, l7, l8, l9, σ =>
    (gR σ l0 9 3).bind fun r1 =>
    (gI σ r1 8 2).bind fun v2 =>
    if v2 ≤ l9 then
    f231_98 K17 l0 l1 l2 l3 l4 l5 l7 l8 σ
    else
    (f157 l7 l9 σ).bind fun y3 =>
    if y3.1 = 0 then
    f231_92 K17 (f231_63 K17 n) l0 l1 l2 l3 l4 l5 l7 l8 l9 y3.2
    else
    (cO y3.2 l0 9).bind fun u5 =>
    (f224 l0 l1 l9 y3.2).bind fun y4 =>
    f231_92 K17 (f231_63 K17 n) l0 l1 l2 l3 l4 l5 l7 l8 l9 y4
set_option maxRecDepth 20000 in
set_option maxHeartbeats 1000000 in
theorem e231_63 (d : Nat) (K17 : Nat → Int32 → Int32 → Int32 → Int32 → Int64 → Int32 → xM → Option (Int32 × xM)) (hK17 : ∀ (l0 : Nat) (l1 : Int32) (l2 : Int32) (l3 : Int32) (l4 : Int32) (l5 : Int64) (l7 : Int32) (x8 x9 x10 : Value) (σ : xM) (y : Int32 × xM), K17 l0 l1 l2 l3 l4 l5 l7 σ = some y → Rn (d + 5) 231 17 [.ref l0, .int l1, .int l2, .int l3, .int l4, .long l5, .retAddr 1, .int l7, x8, x9, x10] [] σ (some (.int y.1), y.2)) : ∀ (n : Nat) (l0 : Nat) (l1 : Int32) (l2 : Int32) (l3 : Int32) (l4 : Int32) (l5 : Int64) (l7 : Int32) (l8 : Int32) (l9 : Int32) (x10 : Value) (σ : xM) (y : Int32 × xM), f231_63 K17 n l0 l1 l2 l3 l4 l5 l7 l8 l9 σ = some y → Rn (d + 5) 231 63 [.ref l0, .int l1, .int l2, .int l3, .int l4, .long l5, .retAddr 1, .int l7, .int l8, .int l9, x10] [] σ (some (.int y.1), y.2) := by
  intro n
  induction n with
  | zero => intro l0 l1 l2 l3 l4 l5 l7 l8 l9 x10 σ y h; cases h
  | succ n ih =>
    intro l0 l1 l2 l3 l4 l5 l7 l8 l9 x10 σ y h
    unfold f231_63 at h
    refine rn_steps 2 66 [.ref l0, .int l1, .int l2, .int l3, .int l4, .long l5, .retAddr 1, .int l7, .int l8, .int l9, x10] [.ref l0, .int l9] rfl ?_
    obtain ⟨r1, hr1, h⟩ := Option.bind_eq_some_iff.mp h
    refine rn_gR (c := 9) (f := 3) rfl rfl ⟨⟨rfl, rfl⟩, rfl⟩ hr1 ?_
    refine rn_steps 0 69 [.ref l0, .int l1, .int l2, .int l3, .int l4, .long l5, .retAddr 1, .int l7, .int l8, .int l9, x10] [.ref r1, .int l9] rfl ?_
    obtain ⟨v2, hv2, h⟩ := Option.bind_eq_some_iff.mp h
    refine rn_gI (c := 8) (f := 2) rfl rfl ⟨⟨rfl, rfl⟩, Or.inl rfl⟩ hv2 ?_
    refine rn_steps 0 72 [.ref l0, .int l1, .int l2, .int l3, .int l4, .long l5, .retAddr 1, .int l7, .int l8, .int l9, x10] [.int v2, .int l9] rfl ?_
    refine rn_br (c := v2 ≤ l9) rfl rfl decide_eq_true_iff (fun hb => ?_) (fun hb => ?_)
    · rw [if_pos hb] at h
      refine rn_steps 0 98 [.ref l0, .int l1, .int l2, .int l3, .int l4, .long l5, .retAddr 1, .int l7, .int l8, .int l9, x10] [] rfl ?_
      exact e231_98 d _ hK17 _ _ _ _ _ _ _ _ _ _ _ _ h
    · rw [if_neg hb] at h
      refine rn_steps 2 79 [.ref l0, .int l1, .int l2, .int l3, .int l4, .long l5, .retAddr 1, .int l7, .int l8, .int l9, x10] [.int l9, .int l7] rfl ?_
      obtain ⟨y3, hy3, h⟩ := Option.bind_eq_some_iff.mp h
      refine rn_callS [.int l7, .int l9] rfl rfl rfl ⟨rfl, rfl, rfl⟩ rfl rfl (e157 (d + 4) hy3) ?_
      refine rn_steps 0 82 [.ref l0, .int l1, .int l2, .int l3, .int l4, .long l5, .retAddr 1, .int l7, .int l8, .int l9, x10] [.int y3.1] rfl ?_
      refine rn_br (c := y3.1 = 0) rfl rfl decide_eq_true_iff (fun hb => ?_) (fun hb => ?_)
      · rw [if_pos hb] at h
        refine rn_steps 0 92 [.ref l0, .int l1, .int l2, .int l3, .int l4, .long l5, .retAddr 1, .int l7, .int l8, .int l9, x10] [] rfl ?_
        exact e231_92 d _ hK17 _ ih _ _ _ _ _ _ _ _ _ _ _ _ h
      · rw [if_neg hb] at h
        refine rn_steps 3 89 [.ref l0, .int l1, .int l2, .int l3, .int l4, .long l5, .retAddr 1, .int l7, .int l8, .int l9, x10] [.int l9, .int l1, .ref l0] rfl ?_
        obtain ⟨u5, hu5, h⟩ := Option.bind_eq_some_iff.mp h
        obtain ⟨y4, hy4, h⟩ := Option.bind_eq_some_iff.mp h
        refine rn_callV [.int l1, .int l9] rfl rfl ⟨rfl, rfl⟩ hu5 rfl rfl (e224 (d + 4) hy4) ?_
        refine rn_steps 0 92 [.ref l0, .int l1, .int l2, .int l3, .int l4, .long l5, .retAddr 1, .int l7, .int l8, .int l9, x10] [] rfl ?_
        exact e231_92 d _ hK17 _ ih _ _ _ _ _ _ _ _ _ _ _ _ h
def f231_17 : Nat → Nat → Int32 → Int32 → Int32 → Int32 → Int64 → Int32 → xM → Option (Int32 × xM)
  | 0, _, _, _, _, _, _, _, _ => none
  | n + 1, l0, l1, l2, l3, l4, l5, l7, σ =>
    if l3 < l7 then
    f231_136 l4 σ
    else
    if (l7 &&& (l3 ^^^ (-1))) = 0 then
    (cO σ l0 9).bind fun u4 =>
    (f229 l0 l1 l7 l2 σ).bind fun y1 =>
    if y1.1 = 9999 then
    f231_130 (f231_17 n) l0 l1 l2 l3 l4 l5 l7 y1.2
    else
    (cO y1.2 l0 9).bind fun u3 =>
    (f188 l0 y1.2).bind fun y2 =>
    f231_63 (f231_17 n) 1100 l0 l1 l2 l3 l4 l5 l7 y1.1 0 y2
    else
    f231_130 (f231_17 n) l0 l1 l2 l3 l4 l5 l7 σ
set_option maxRecDepth 20000 in
set_option maxHeartbeats 1000000 in
theorem e231_17 (d : Nat) : ∀ (n : Nat) (l0 : Nat) (l1 : Int32) (l2 : Int32) (l3 : Int32) (l4 : Int32) (l5 : Int64) (l7 : Int32) (x8 x9 x10 : Value) (σ : xM) (y : Int32 × xM), f231_17 n l0 l1 l2 l3 l4 l5 l7 σ = some y → Rn (d + 5) 231 17 [.ref l0, .int l1, .int l2, .int l3, .int l4, .long l5, .retAddr 1, .int l7, x8, x9, x10] [] σ (some (.int y.1), y.2) := by
  intro n
  induction n with
  | zero => intro l0 l1 l2 l3 l4 l5 l7 x8 x9 x10 σ y h; cases h
  | succ n ih =>
    intro l0 l1 l2 l3 l4 l5 l7 x8 x9 x10 σ y h
    unfold f231_17 at h
    refine rn_steps 2 20 [.ref l0, .int l1, .int l2, .int l3, .int l4, .long l5, .retAddr 1, .int l7, x8, x9, x10] [.int l3, .int l7] rfl ?_
    refine rn_br (c := l3 < l7) rfl rfl decide_eq_true_iff (fun hb => ?_) (fun hb => ?_)
    · rw [if_pos hb] at h
      refine rn_steps 0 136 [.ref l0, .int l1, .int l2, .int l3, .int l4, .long l5, .retAddr 1, .int l7, x8, x9, x10] [] rfl ?_
      exact e231_136 d _ _ _ _ _ _ _ _ _ _ _ _ _ h
    · rw [if_neg hb] at h
      refine rn_steps 5 29 [.ref l0, .int l1, .int l2, .int l3, .int l4, .long l5, .retAddr 1, .int l7, x8, x9, x10] [.int (l7 &&& (l3 ^^^ (-1)))] rfl ?_
      refine rn_br (c := (l7 &&& (l3 ^^^ (-1))) = 0) rfl rfl decide_eq_true_iff (fun hb => ?_) (fun hb => ?_)
      · rw [if_pos hb] at h
        refine rn_steps 4 40 [.ref l0, .int l1, .int l2, .int l3, .int l4, .long l5, .retAddr 1, .int l7, x8, x9, x10] [.int l2, .int l7, .int l1, .ref l0] rfl ?_
        obtain ⟨u4, hu4, h⟩ := Option.bind_eq_some_iff.mp h
        obtain ⟨y1, hy1, h⟩ := Option.bind_eq_some_iff.mp h
        refine rn_callV [.int l1, .int l7, .int l2] rfl rfl ⟨rfl, rfl⟩ hu4 rfl rfl (e229 (d + 2) hy1) ?_
        refine rn_steps 3 50 [.ref l0, .int l1, .int l2, .int l3, .int l4, .long l5, .retAddr 1, .int l7, .int y1.1, x9, x10] [.int 9999, .int y1.1] rfl ?_
        refine rn_br (c := ¬ y1.1 = 9999) rfl rfl decide_eq_true_iff (fun hb => ?_) (fun hb => ?_)
        · rw [if_neg hb] at h
          refine rn_steps 1 57 [.ref l0, .int l1, .int l2, .int l3, .int l4, .long l5, .retAddr 1, .int l7, .int y1.1, x9, x10] [.ref l0] rfl ?_
          obtain ⟨u3, hu3, h⟩ := Option.bind_eq_some_iff.mp h
          obtain ⟨y2, hy2, h⟩ := Option.bind_eq_some_iff.mp h
          refine rn_callV [] rfl rfl ⟨rfl, rfl⟩ hu3 rfl rfl (e188 (d + 4) hy2) ?_
          refine rn_steps 2 63 [.ref l0, .int l1, .int l2, .int l3, .int l4, .long l5, .retAddr 1, .int l7, .int y1.1, .int 0, x10] [] rfl ?_
          exact e231_63 d _ ih 1100 _ _ _ _ _ _ _ _ _ _ _ _ h
        · rw [if_pos (Decidable.not_not.mp hb)] at h
          refine rn_steps 1 130 [.ref l0, .int l1, .int l2, .int l3, .int l4, .long l5, .retAddr 1, .int l7, .int y1.1, x9, x10] [] rfl ?_
          exact e231_130 d _ ih _ _ _ _ _ _ _ _ _ _ _ _ h
      · rw [if_neg hb] at h
        refine rn_steps 1 130 [.ref l0, .int l1, .int l2, .int l3, .int l4, .long l5, .retAddr 1, .int l7, x8, x9, x10] [] rfl ?_
        exact e231_130 d _ ih _ _ _ _ _ _ _ _ _ _ _ _ h
/-- LastAskedModel.bestTour(II)I -/
def f231 (l0 : Nat) (l1 : Int32) (l2 : Int32) (σ : xM) : Option (Int32 × xM) :=
  (cO σ l0 9).bind fun u2 =>
  (f199 l0 l1 σ).bind fun y1 =>
  f231_17 1100 l0 l1 l2 y1.1 0 (-1) 0 y1.2
set_option maxRecDepth 20000 in
set_option maxHeartbeats 1000000 in
theorem e231 (d : Nat) {l0 : Nat} {l1 : Int32} {l2 : Int32} {σ : xM} {y : Int32 × xM} (h : f231 l0 l1 l2 σ = some y) : Rn (d + 5) 231 0 [.ref l0, .int l1, .int l2, .retAddr 0, .retAddr 0, .retAddr 0, .retAddr 0, .retAddr 0, .retAddr 0, .retAddr 0, .retAddr 0] [] σ (some (.int y.1), y.2) := by
  unfold f231 at h
  refine rn_steps 2 2 [.ref l0, .int l1, .int l2, .retAddr 0, .retAddr 0, .retAddr 0, .retAddr 0, .retAddr 0, .retAddr 0, .retAddr 0, .retAddr 0] [.int l1, .ref l0] rfl ?_
  obtain ⟨u2, hu2, h⟩ := Option.bind_eq_some_iff.mp h
  obtain ⟨y1, hy1, h⟩ := Option.bind_eq_some_iff.mp h
  refine rn_callV [.int l1] rfl rfl ⟨rfl, rfl⟩ hu2 rfl rfl (e199 (d + 2) hy1) ?_
  refine rn_steps 7 17 [.ref l0, .int l1, .int l2, .int y1.1, .int 0, .long (-1), .retAddr 1, .int 0, .retAddr 0, .retAddr 0, .retAddr 0] [] rfl ?_
  exact e231_17 d 1100 _ _ _ _ _ _ _ _ _ _ _ _ h
def f232_37 (s0 : Int32) (σ : xM) : Option (Int32 × xM) :=
  some (s0, σ)
set_option maxRecDepth 20000 in
set_option maxHeartbeats 1000000 in
theorem e232_37 (d : Nat) (s0 : Int32) (x0 x1 x2 x3 : Value) (σ : xM) (y : Int32 × xM) (h : f232_37 s0 σ = some y) : Rn (d + 6) 232 37 [x0, x1, x2, x3] [.int s0] σ (some (.int y.1), y.2) := by
  unfold f232_37 at h
  cases h
  exact rn_ret rfl rfl rfl
/-- LastAskedModel.tour(II)I -/
def f232 (l0 : Nat) (l1 : Int32) (l2 : Int32) (σ : xM) : Option (Int32 × xM) :=
  (pI σ l0 9 0 0).bind fun σ1 =>
  (cO σ1 l0 9).bind fun u9 =>
  (f226 l0 l1 l2 0 12 σ1).bind fun y2 =>
  if y2.1 ≤ 0 then
  (cO y2.2 l0 9).bind fun u6 =>
  (f231 l0 l1 l2 y2.2).bind fun y3 =>
  (cO y3.2 l0 9).bind fun u5 =>
  (f154 l0 y3.1 y3.2).bind fun y4 =>
  f232_37 y4.1 y4.2
  else
  (cO y2.2 l0 9).bind fun u8 =>
  (f151 l0 y2.1 y2.2).bind fun y7 =>
  f232_37 y7.1 y7.2
set_option maxRecDepth 20000 in
set_option maxHeartbeats 1000000 in
theorem e232 (d : Nat) {l0 : Nat} {l1 : Int32} {l2 : Int32} {σ : xM} {y : Int32 × xM} (h : f232 l0 l1 l2 σ = some y) : Rn (d + 6) 232 0 [.ref l0, .int l1, .int l2, .retAddr 0] [] σ (some (.int y.1), y.2) := by
  unfold f232 at h
  refine rn_steps 2 2 [.ref l0, .int l1, .int l2, .retAddr 0] [.int 0, .ref l0] rfl ?_
  obtain ⟨σ1, hσ1, h⟩ := Option.bind_eq_some_iff.mp h
  refine rn_pI (c := 9) (f := 0) rfl rfl ⟨⟨rfl, rfl⟩, rfl⟩ hσ1 ?_
  refine rn_steps 5 11 [.ref l0, .int l1, .int l2, .retAddr 0] [.int 12, .int 0, .int l2, .int l1, .ref l0] rfl ?_
  obtain ⟨u9, hu9, h⟩ := Option.bind_eq_some_iff.mp h
  obtain ⟨y2, hy2, h⟩ := Option.bind_eq_some_iff.mp h
  refine rn_callV [.int l1, .int l2, .int 0, .int 12] rfl rfl ⟨rfl, rfl⟩ hu9 rfl rfl (e226 (d + 4) hy2) ?_
  refine rn_steps 2 16 [.ref l0, .int l1, .int l2, .int y2.1] [.int y2.1] rfl ?_
  refine rn_br (c := y2.1 ≤ 0) rfl rfl decide_eq_true_iff (fun hb => ?_) (fun hb => ?_)
  · rw [if_pos hb] at h
    refine rn_steps 4 31 [.ref l0, .int l1, .int l2, .int y2.1] [.int l2, .int l1, .ref l0, .ref l0] rfl ?_
    obtain ⟨u6, hu6, h⟩ := Option.bind_eq_some_iff.mp h
    obtain ⟨y3, hy3, h⟩ := Option.bind_eq_some_iff.mp h
    refine rn_callV [.int l1, .int l2] rfl rfl ⟨rfl, rfl⟩ hu6 rfl rfl (e231 d hy3) ?_
    refine rn_steps 0 34 [.ref l0, .int l1, .int l2, .int y2.1] [.int y3.1, .ref l0] rfl ?_
    obtain ⟨u5, hu5, h⟩ := Option.bind_eq_some_iff.mp h
    obtain ⟨y4, hy4, h⟩ := Option.bind_eq_some_iff.mp h
    refine rn_callV [.int y3.1] rfl rfl ⟨rfl, rfl⟩ hu5 rfl rfl (e154 (d + 5) hy4) ?_
    refine rn_steps 0 37 [.ref l0, .int l1, .int l2, .int y2.1] [.int y4.1] rfl ?_
    exact e232_37 d _ _ _ _ _ _ _ h
  · rw [if_neg hb] at h
    refine rn_steps 2 21 [.ref l0, .int l1, .int l2, .int y2.1] [.int y2.1, .ref l0] rfl ?_
    obtain ⟨u8, hu8, h⟩ := Option.bind_eq_some_iff.mp h
    obtain ⟨y7, hy7, h⟩ := Option.bind_eq_some_iff.mp h
    refine rn_callV [.int y2.1] rfl rfl ⟨rfl, rfl⟩ hu8 rfl rfl (e151 (d + 5) hy7) ?_
    refine rn_steps 1 37 [.ref l0, .int l1, .int l2, .int y2.1] [.int y7.1] rfl ?_
    exact e232_37 d _ _ _ _ _ _ _ h
/-- LastAskedModel.tourHours(II)I -/
def f233 (l0 : Nat) (l1 : Int32) (l2 : Int32) (σ : xM) : Option (Int32 × xM) :=
  (pI σ l0 9 0 0).bind fun σ1 =>
  (cO σ1 l0 9).bind fun u10 =>
  (f226 l0 l1 l2 0 12 σ1).bind fun y2 =>
  if y2.1 ≤ 0 then
  (cO y2.2 l0 9).bind fun u7 =>
  (f231 l0 l1 l2 y2.2).bind fun y3 =>
  (gI y3.2 l0 9 29).bind fun v4 =>
  (cO y3.2 l0 9).bind fun u6 =>
  (f154 l0 v4 y3.2).bind fun y5 =>
  some (y5.1, y5.2)
  else
  (cO y2.2 l0 9).bind fun u9 =>
  (f151 l0 y2.1 y2.2).bind fun y8 =>
  some (y8.1, y8.2)
set_option maxRecDepth 20000 in
set_option maxHeartbeats 1000000 in
theorem e233 (d : Nat) {l0 : Nat} {l1 : Int32} {l2 : Int32} {σ : xM} {y : Int32 × xM} (h : f233 l0 l1 l2 σ = some y) : Rn (d + 6) 233 0 [.ref l0, .int l1, .int l2, .retAddr 0] [] σ (some (.int y.1), y.2) := by
  unfold f233 at h
  refine rn_steps 2 2 [.ref l0, .int l1, .int l2, .retAddr 0] [.int 0, .ref l0] rfl ?_
  obtain ⟨σ1, hσ1, h⟩ := Option.bind_eq_some_iff.mp h
  refine rn_pI (c := 9) (f := 0) rfl rfl ⟨⟨rfl, rfl⟩, rfl⟩ hσ1 ?_
  refine rn_steps 5 11 [.ref l0, .int l1, .int l2, .retAddr 0] [.int 12, .int 0, .int l2, .int l1, .ref l0] rfl ?_
  obtain ⟨u10, hu10, h⟩ := Option.bind_eq_some_iff.mp h
  obtain ⟨y2, hy2, h⟩ := Option.bind_eq_some_iff.mp h
  refine rn_callV [.int l1, .int l2, .int 0, .int 12] rfl rfl ⟨rfl, rfl⟩ hu10 rfl rfl (e226 (d + 4) hy2) ?_
  refine rn_steps 2 16 [.ref l0, .int l1, .int l2, .int y2.1] [.int y2.1] rfl ?_
  refine rn_br (c := y2.1 ≤ 0) rfl rfl decide_eq_true_iff (fun hb => ?_) (fun hb => ?_)
  · rw [if_pos hb] at h
    refine rn_steps 3 28 [.ref l0, .int l1, .int l2, .int y2.1] [.int l2, .int l1, .ref l0] rfl ?_
    obtain ⟨u7, hu7, h⟩ := Option.bind_eq_some_iff.mp h
    obtain ⟨y3, hy3, h⟩ := Option.bind_eq_some_iff.mp h
    refine rn_callV [.int l1, .int l2] rfl rfl ⟨rfl, rfl⟩ hu7 rfl rfl (e231 d hy3) ?_
    refine rn_steps 3 34 [.ref l0, .int l1, .int l2, .int y2.1] [.ref l0, .ref l0] rfl ?_
    obtain ⟨v4, hv4, h⟩ := Option.bind_eq_some_iff.mp h
    refine rn_gI (c := 9) (f := 29) rfl rfl ⟨⟨rfl, rfl⟩, Or.inl rfl⟩ hv4 ?_
    refine rn_steps 0 37 [.ref l0, .int l1, .int l2, .int y2.1] [.int v4, .ref l0] rfl ?_
    obtain ⟨u6, hu6, h⟩ := Option.bind_eq_some_iff.mp h
    obtain ⟨y5, hy5, h⟩ := Option.bind_eq_some_iff.mp h
    refine rn_callV [.int v4] rfl rfl ⟨rfl, rfl⟩ hu6 rfl rfl (e154 (d + 5) hy5) ?_
    refine rn_steps 0 40 [.ref l0, .int l1, .int l2, .int y2.1] [.int y5.1] rfl ?_
    cases h
    exact rn_ret rfl rfl rfl
  · rw [if_neg hb] at h
    refine rn_steps 2 21 [.ref l0, .int l1, .int l2, .int y2.1] [.int y2.1, .ref l0] rfl ?_
    obtain ⟨u9, hu9, h⟩ := Option.bind_eq_some_iff.mp h
    obtain ⟨y8, hy8, h⟩ := Option.bind_eq_some_iff.mp h
    refine rn_callV [.int y2.1] rfl rfl ⟨rfl, rfl⟩ hu9 rfl rfl (e151 (d + 5) hy8) ?_
    refine rn_steps 0 24 [.ref l0, .int l1, .int l2, .int y2.1] [.int y8.1] rfl ?_
    cases h
    exact rn_ret rfl rfl rfl
def f234_52 (s0 : Int32) (s1 : Nat) (σ : xM) : Option (Int32 × xM) :=
  (cO σ s1 9).bind fun u2 =>
  (f154 s1 s0 σ).bind fun y1 =>
  some (y1.1, y1.2)
set_option maxRecDepth 20000 in
set_option maxHeartbeats 1000000 in
theorem e234_52 (d : Nat) (s0 : Int32) (s1 : Nat) (x0 x1 x2 x3 : Value) (σ : xM) (y : Int32 × xM) (h : f234_52 s0 s1 σ = some y) : Rn (d + 3) 234 52 [x0, x1, x2, x3] [.int s0, .ref s1] σ (some (.int y.1), y.2) := by
  unfold f234_52 at h
  obtain ⟨u2, hu2, h⟩ := Option.bind_eq_some_iff.mp h
  obtain ⟨y1, hy1, h⟩ := Option.bind_eq_some_iff.mp h
  refine rn_callV [.int s0] rfl rfl ⟨rfl, rfl⟩ hu2 rfl rfl (e154 (d + 2) hy1) ?_
  refine rn_steps 0 55 [x0, x1, x2, x3] [.int y1.1] rfl ?_
  cases h
  exact rn_ret rfl rfl rfl
def f234_21 (l0 : Nat) (σ : xM) : Option (Int32 × xM) :=
  (cO σ l0 9).bind fun u2 =>
  (f151 l0 1 σ).bind fun y1 =>
  some (y1.1, y1.2)
set_option maxRecDepth 20000 in
set_option maxHeartbeats 1000000 in
theorem e234_21 (d : Nat) (l0 : Nat) (x1 x2 x3 : Value) (σ : xM) (y : Int32 × xM) (h : f234_21 l0 σ = some y) : Rn (d + 3) 234 21 [.ref l0, x1, x2, x3] [] σ (some (.int y.1), y.2) := by
  unfold f234_21 at h
  refine rn_steps 2 23 [.ref l0, x1, x2, x3] [.int 1, .ref l0] rfl ?_
  obtain ⟨u2, hu2, h⟩ := Option.bind_eq_some_iff.mp h
  obtain ⟨y1, hy1, h⟩ := Option.bind_eq_some_iff.mp h
  refine rn_callV [.int 1] rfl rfl ⟨rfl, rfl⟩ hu2 rfl rfl (e151 (d + 2) hy1) ?_
  refine rn_steps 0 26 [.ref l0, x1, x2, x3] [.int y1.1] rfl ?_
  cases h
  exact rn_ret rfl rfl rfl
/-- LastAskedModel.apart(II)I -/
def f234 (l0 : Nat) (l1 : Int32) (l2 : Int32) (σ : xM) : Option (Int32 × xM) :=
  (pI σ l0 9 0 0).bind fun σ1 =>
  (cO σ1 l0 9).bind fun u7 =>
  (f186 l0 l1 σ1).bind fun y2 =>
  if y2.1 = 0 then
  f234_21 l0 y2.2
  else
  (cO y2.2 l0 9).bind fun u6 =>
  (f186 l0 l2 y2.2).bind fun y3 =>
  if y3.1 = 0 then
  f234_21 l0 y3.2
  else
  (cO y3.2 l0 9).bind fun u5 =>
  (f229 l0 l1 (1 <<< (l2 &&& 31)) 6 y3.2).bind fun y4 =>
  if y4.1 = 9999 then
  f234_52 (-2) l0 y4.2
  else
  f234_52 y4.1 l0 y4.2
set_option maxRecDepth 20000 in
set_option maxHeartbeats 1000000 in
theorem e234 (d : Nat) {l0 : Nat} {l1 : Int32} {l2 : Int32} {σ : xM} {y : Int32 × xM} (h : f234 l0 l1 l2 σ = some y) : Rn (d + 3) 234 0 [.ref l0, .int l1, .int l2, .retAddr 0] [] σ (some (.int y.1), y.2) := by
  unfold f234 at h
  refine rn_steps 2 2 [.ref l0, .int l1, .int l2, .retAddr 0] [.int 0, .ref l0] rfl ?_
  obtain ⟨σ1, hσ1, h⟩ := Option.bind_eq_some_iff.mp h
  refine rn_pI (c := 9) (f := 0) rfl rfl ⟨⟨rfl, rfl⟩, rfl⟩ hσ1 ?_
  refine rn_steps 2 7 [.ref l0, .int l1, .int l2, .retAddr 0] [.int l1, .ref l0] rfl ?_
  obtain ⟨u7, hu7, h⟩ := Option.bind_eq_some_iff.mp h
  obtain ⟨y2, hy2, h⟩ := Option.bind_eq_some_iff.mp h
  refine rn_callV [.int l1] rfl rfl ⟨rfl, rfl⟩ hu7 rfl rfl (e186 (d + 2) hy2) ?_
  refine rn_steps 0 10 [.ref l0, .int l1, .int l2, .retAddr 0] [.int y2.1] rfl ?_
  refine rn_br (c := y2.1 = 0) rfl rfl decide_eq_true_iff (fun hb => ?_) (fun hb => ?_)
  · rw [if_pos hb] at h
    refine rn_steps 0 21 [.ref l0, .int l1, .int l2, .retAddr 0] [] rfl ?_
    exact e234_21 d _ _ _ _ _ _ h
  · rw [if_neg hb] at h
    refine rn_steps 2 15 [.ref l0, .int l1, .int l2, .retAddr 0] [.int l2, .ref l0] rfl ?_
    obtain ⟨u6, hu6, h⟩ := Option.bind_eq_some_iff.mp h
    obtain ⟨y3, hy3, h⟩ := Option.bind_eq_some_iff.mp h
    refine rn_callV [.int l2] rfl rfl ⟨rfl, rfl⟩ hu6 rfl rfl (e186 (d + 2) hy3) ?_
    refine rn_steps 0 18 [.ref l0, .int l1, .int l2, .retAddr 0] [.int y3.1] rfl ?_
    refine rn_br (c := ¬ y3.1 = 0) rfl rfl decide_eq_true_iff (fun hb => ?_) (fun hb => ?_)
    · rw [if_neg hb] at h
      refine rn_steps 6 34 [.ref l0, .int l1, .int l2, .retAddr 0] [.int 6, .int (1 <<< (l2 &&& 31)), .int l1, .ref l0] rfl ?_
      obtain ⟨u5, hu5, h⟩ := Option.bind_eq_some_iff.mp h
      obtain ⟨y4, hy4, h⟩ := Option.bind_eq_some_iff.mp h
      refine rn_callV [.int l1, .int (1 <<< (l2 &&& 31)), .int 6] rfl rfl ⟨rfl, rfl⟩ hu5 rfl rfl (e229 d hy4) ?_
      refine rn_steps 4 43 [.ref l0, .int l1, .int l2, .int y4.1] [.int 9999, .int y4.1, .ref l0] rfl ?_
      refine rn_br (c := ¬ y4.1 = 9999) rfl rfl decide_eq_true_iff (fun hb => ?_) (fun hb => ?_)
      · rw [if_neg hb] at h
        refine rn_steps 1 52 [.ref l0, .int l1, .int l2, .int y4.1] [.int y4.1, .ref l0] rfl ?_
        exact e234_52 d _ _ _ _ _ _ _ _ h
      · rw [if_pos (Decidable.not_not.mp hb)] at h
        refine rn_steps 2 52 [.ref l0, .int l1, .int l2, .int y4.1] [.int (-2), .ref l0] rfl ?_
        exact e234_52 d _ _ _ _ _ _ _ _ h
    · rw [if_pos (Decidable.not_not.mp hb)] at h
      refine rn_steps 0 21 [.ref l0, .int l1, .int l2, .retAddr 0] [] rfl ?_
      exact e234_21 d _ _ _ _ _ _ h
def f235_97 (l0 : Nat) (l3 : Int32) (σ : xM) : Option (Int32 × xM) :=
  (cO σ l0 9).bind fun u2 =>
  (f154 l0 l3 σ).bind fun y1 =>
  some (y1.1, y1.2)
set_option maxRecDepth 20000 in
set_option maxHeartbeats 1000000 in
theorem e235_97 (d : Nat) (l0 : Nat) (l3 : Int32) (x1 x2 x4 : Value) (σ : xM) (y : Int32 × xM) (h : f235_97 l0 l3 σ = some y) : Rn (d + 3) 235 97 [.ref l0, x1, x2, .int l3, x4] [] σ (some (.int y.1), y.2) := by
  unfold f235_97 at h
  refine rn_steps 2 99 [.ref l0, x1, x2, .int l3, x4] [.int l3, .ref l0] rfl ?_
  obtain ⟨u2, hu2, h⟩ := Option.bind_eq_some_iff.mp h
  obtain ⟨y1, hy1, h⟩ := Option.bind_eq_some_iff.mp h
  refine rn_callV [.int l3] rfl rfl ⟨rfl, rfl⟩ hu2 rfl rfl (e154 (d + 2) hy1) ?_
  refine rn_steps 0 102 [.ref l0, x1, x2, .int l3, x4] [.int y1.1] rfl ?_
  cases h
  exact rn_ret rfl rfl rfl
def f235_91 (K35 : Nat → Int32 → Int32 → Int32 → Int32 → xM → Option (Int32 × xM)) (l0 : Nat) (l1 : Int32) (l2 : Int32) (l3 : Int32) (l4 : Int32) (σ : xM) : Option (Int32 × xM) :=
  K35 l0 l1 l2 l3 (l4 + 1) σ
set_option maxRecDepth 20000 in
set_option maxHeartbeats 1000000 in
theorem e235_91 (d : Nat) (K35 : Nat → Int32 → Int32 → Int32 → Int32 → xM → Option (Int32 × xM)) (hK35 : ∀ (l0 : Nat) (l1 : Int32) (l2 : Int32) (l3 : Int32) (l4 : Int32) (σ : xM) (y : Int32 × xM), K35 l0 l1 l2 l3 l4 σ = some y → Rn (d + 3) 235 35 [.ref l0, .int l1, .int l2, .int l3, .int l4] [] σ (some (.int y.1), y.2)) (l0 : Nat) (l1 : Int32) (l2 : Int32) (l3 : Int32) (l4 : Int32) (σ : xM) (y : Int32 × xM) (h : f235_91 K35 l0 l1 l2 l3 l4 σ = some y) : Rn (d + 3) 235 91 [.ref l0, .int l1, .int l2, .int l3, .int l4] [] σ (some (.int y.1), y.2) := by
  unfold f235_91 at h
  refine rn_steps 2 35 [.ref l0, .int l1, .int l2, .int l3, .int (l4 + 1)] [] rfl ?_
  exact hK35 _ _ _ _ _ _ _ h
def f235_88 (K35 : Nat → Int32 → Int32 → Int32 → Int32 → xM → Option (Int32 × xM)) (l0 : Nat) (l1 : Int32) (l2 : Int32) (l4 : Int32) (σ : xM) : Option (Int32 × xM) :=
  f235_91 K35 l0 l1 l2 l4 l4 σ
set_option maxRecDepth 20000 in
set_option maxHeartbeats 1000000 in
theorem e235_88 (d : Nat) (K35 : Nat → Int32 → Int32 → Int32 → Int32 → xM → Option (Int32 × xM)) (hK35 : ∀ (l0 : Nat) (l1 : Int32) (l2 : Int32) (l3 : Int32) (l4 : Int32) (σ : xM) (y : Int32 × xM), K35 l0 l1 l2 l3 l4 σ = some y → Rn (d + 3) 235 35 [.ref l0, .int l1, .int l2, .int l3, .int l4] [] σ (some (.int y.1), y.2)) (l0 : Nat) (l1 : Int32) (l2 : Int32) (l4 : Int32) (x3 : Value) (σ : xM) (y : Int32 × xM) (h : f235_88 K35 l0 l1 l2 l4 σ = some y) : Rn (d + 3) 235 88 [.ref l0, .int l1, .int l2, x3, .int l4] [] σ (some (.int y.1), y.2) := by
  unfold f235_88 at h
  refine rn_steps 2 91 [.ref l0, .int l1, .int l2, .int l4, .int l4] [] rfl ?_
  exact e235_91 d _ hK35 _ _ _ _ _ _ _ h
def f235_35 : Nat → Nat → Int32 → Int32 → Int32 → Int32 → xM → Option (Int32 × xM)
  | 0, _, _, _, _, _, _ => none
  | n + 1, l0, l1, l2, l3, l4, σ =>
    (gR σ l0 9 3).bind fun r1 =>
    (gI σ r1 8 2).bind fun v2 =>
    if v2 ≤ l4 then
    f235_97 l0 l3 σ
    else
    (f157 l2 l4 σ).bind fun y3 =>
    if y3.1 = 0 then
    f235_91 (f235_35 n) l0 l1 l2 l3 l4 y3.2
    else
    (cO y3.2 l0 9).bind fun u9 =>
    (f192 l0 l4 y3.2).bind fun y4 =>
    if y4.1 = l1 then
    f235_91 (f235_35 n) l0 l1 l2 l3 l4 y4.2
    else
    if l3 = (-2) then
    f235_88 (f235_35 n) l0 l1 l2 l4 y4.2
    else
    (gR y4.2 l0 9 16).bind fun r5 =>
    (aI y4.2 r5 l4).bind fun v6 =>
    (gR y4.2 l0 9 16).bind fun r7 =>
    (aI y4.2 r7 l3).bind fun v8 =>
    if v6 ≤ v8 then
    f235_91 (f235_35 n) l0 l1 l2 l3 l4 y4.2
    else
    f235_88 (f235_35 n) l0 l1 l2 l4 y4.2
set_option maxRecDepth 20000 in
set_option maxHeartbeats 1000000 in
theorem e235_35 (d : Nat) : ∀ (n : Nat) (l0 : Nat) (l1 : Int32) (l2 : Int32) (l3 : Int32) (l4 : Int32) (σ : xM) (y : Int32 × xM), f235_35 n l0 l1 l2 l3 l4 σ = some y → Rn (d + 3) 235 35 [.ref l0, .int l1, .int l2, .int l3, .int l4] [] σ (some (.int y.1), y.2) := by
  intro n
  induction n with
  | zero => intro l0 l1 l2 l3 l4 σ y h; cases h
  | succ n ih =>
    intro l0 l1 l2 l3 l4 σ y h
    unfold f235_35 at h
    refine rn_steps 2 38 [.ref l0, .int l1, .int l2, .int l3, .int l4] [.ref l0, .int l4] rfl ?_
    obtain ⟨r1, hr1, h⟩ := Option.bind_eq_some_iff.mp h
    refine rn_gR (c := 9) (f := 3) rfl rfl ⟨⟨rfl, rfl⟩, rfl⟩ hr1 ?_
    refine rn_steps 0 41 [.ref l0, .int l1, .int l2, .int l3, .int l4] [.ref r1, .int l4] rfl ?_
    obtain ⟨v2, hv2, h⟩ := Option.bind_eq_some_iff.mp h
    refine rn_gI (c := 8) (f := 2) rfl rfl ⟨⟨rfl, rfl⟩, Or.inl rfl⟩ hv2 ?_
    refine rn_steps 0 44 [.ref l0, .int l1, .int l2, .int l3, .int l4] [.int v2, .int l4] rfl ?_
    refine rn_br (c := v2 ≤ l4) rfl rfl decide_eq_true_iff (fun hb => ?_) (fun hb => ?_)
    · rw [if_pos hb] at h
      refine rn_steps 0 97 [.ref l0, .int l1, .int l2, .int l3, .int l4] [] rfl ?_
      exact e235_97 d _ _ _ _ _ _ _ h
    · rw [if_neg hb] at h
      refine rn_steps 2 50 [.ref l0, .int l1, .int l2, .int l3, .int l4] [.int l4, .int l2] rfl ?_
      obtain ⟨y3, hy3, h⟩ := Option.bind_eq_some_iff.mp h
      refine rn_callS [.int l2, .int l4] rfl rfl rfl ⟨rfl, rfl, rfl⟩ rfl rfl (e157 (d + 2) hy3) ?_
      refine rn_steps 0 53 [.ref l0, .int l1, .int l2, .int l3, .int l4] [.int y3.1] rfl ?_
      refine rn_br (c := y3.1 = 0) rfl rfl decide_eq_true_iff (fun hb => ?_) (fun hb => ?_)
      · rw [if_pos hb] at h
        refine rn_steps 0 91 [.ref l0, .int l1, .int l2, .int l3, .int l4] [] rfl ?_
        exact e235_91 d _ ih _ _ _ _ _ _ _ h
      · rw [if_neg hb] at h
        refine rn_steps 2 59 [.ref l0, .int l1, .int l2, .int l3, .int l4] [.int l4, .ref l0] rfl ?_
        obtain ⟨u9, hu9, h⟩ := Option.bind_eq_some_iff.mp h
        obtain ⟨y4, hy4, h⟩ := Option.bind_eq_some_iff.mp h
        refine rn_callV [.int l4] rfl rfl ⟨rfl, rfl⟩ hu9 rfl rfl (e192 d hy4) ?_
        refine rn_steps 1 63 [.ref l0, .int l1, .int l2, .int l3, .int l4] [.int l1, .int y4.1] rfl ?_
        refine rn_br (c := y4.1 = l1) rfl rfl decide_eq_true_iff (fun hb => ?_) (fun hb => ?_)
        · rw [if_pos hb] at h
          refine rn_steps 0 91 [.ref l0, .int l1, .int l2, .int l3, .int l4] [] rfl ?_
          exact e235_91 d _ ih _ _ _ _ _ _ _ h
        · rw [if_neg hb] at h
          refine rn_steps 2 69 [.ref l0, .int l1, .int l2, .int l3, .int l4] [.int (-2), .int l3] rfl ?_
          refine rn_br (c := l3 = (-2)) rfl rfl decide_eq_true_iff (fun hb => ?_) (fun hb => ?_)
          · rw [if_pos hb] at h
            refine rn_steps 0 88 [.ref l0, .int l1, .int l2, .int l3, .int l4] [] rfl ?_
            exact e235_88 d _ ih _ _ _ _ _ _ _ h
          · rw [if_neg hb] at h
            refine rn_steps 1 73 [.ref l0, .int l1, .int l2, .int l3, .int l4] [.ref l0] rfl ?_
            obtain ⟨r5, hr5, h⟩ := Option.bind_eq_some_iff.mp h
            refine rn_gR (c := 9) (f := 16) rfl rfl ⟨⟨rfl, rfl⟩, rfl⟩ hr5 ?_
            refine rn_steps 1 78 [.ref l0, .int l1, .int l2, .int l3, .int l4] [.int l4, .ref r5] rfl ?_
            obtain ⟨v6, hv6, h⟩ := Option.bind_eq_some_iff.mp h
            refine rn_aI rfl hv6 ?_
            refine rn_steps 1 80 [.ref l0, .int l1, .int l2, .int l3, .int l4] [.ref l0, .int v6] rfl ?_
            obtain ⟨r7, hr7, h⟩ := Option.bind_eq_some_iff.mp h
            refine rn_gR (c := 9) (f := 16) rfl rfl ⟨⟨rfl, rfl⟩, rfl⟩ hr7 ?_
            refine rn_steps 1 84 [.ref l0, .int l1, .int l2, .int l3, .int l4] [.int l3, .ref r7, .int v6] rfl ?_
            obtain ⟨v8, hv8, h⟩ := Option.bind_eq_some_iff.mp h
            refine rn_aI rfl hv8 ?_
            refine rn_steps 0 85 [.ref l0, .int l1, .int l2, .int l3, .int l4] [.int v8, .int v6] rfl ?_
            refine rn_br (c := v6 ≤ v8) rfl rfl decide_eq_true_iff (fun hb => ?_) (fun hb => ?_)
            · rw [if_pos hb] at h
              refine rn_steps 0 91 [.ref l0, .int l1, .int l2, .int l3, .int l4] [] rfl ?_
              exact e235_91 d _ ih _ _ _ _ _ _ _ h
            · rw [if_neg hb] at h
              refine rn_steps 0 88 [.ref l0, .int l1, .int l2, .int l3, .int l4] [] rfl ?_
              exact e235_88 d _ ih _ _ _ _ _ _ _ h
/-- LastAskedModel.toAsk(I)I -/
def f235 (l0 : Nat) (l1 : Int32) (σ : xM) : Option (Int32 × xM) :=
  (pI σ l0 9 0 0).bind fun σ1 =>
  (cO σ1 l0 9).bind fun u9 =>
  (f186 l0 l1 σ1).bind fun y2 =>
  if y2.1 = 0 then
  (cO y2.2 l0 9).bind fun u8 =>
  (f151 l0 1 y2.2).bind fun y7 =>
  some (y7.1, y7.2)
  else
  (cO y2.2 l0 9).bind fun u6 =>
  (f188 l0 y2.2).bind fun y3 =>
  (cO y3 l0 9).bind fun u5 =>
  (f199 l0 l1 y3).bind fun y4 =>
  f235_35 1100 l0 l1 y4.1 (-2) 0 y4.2
set_option maxRecDepth 20000 in
set_option maxHeartbeats 1000000 in
theorem e235 (d : Nat) {l0 : Nat} {l1 : Int32} {σ : xM} {y : Int32 × xM} (h : f235 l0 l1 σ = some y) : Rn (d + 3) 235 0 [.ref l0, .int l1, .retAddr 0, .retAddr 0, .retAddr 0] [] σ (some (.int y.1), y.2) := by
  unfold f235 at h
  refine rn_steps 2 2 [.ref l0, .int l1, .retAddr 0, .retAddr 0, .retAddr 0] [.int 0, .ref l0] rfl ?_
  obtain ⟨σ1, hσ1, h⟩ := Option.bind_eq_some_iff.mp h
  refine rn_pI (c := 9) (f := 0) rfl rfl ⟨⟨rfl, rfl⟩, rfl⟩ hσ1 ?_
  refine rn_steps 2 7 [.ref l0, .int l1, .retAddr 0, .retAddr 0, .retAddr 0] [.int l1, .ref l0] rfl ?_
  obtain ⟨u9, hu9, h⟩ := Option.bind_eq_some_iff.mp h
  obtain ⟨y2, hy2, h⟩ := Option.bind_eq_some_iff.mp h
  refine rn_callV [.int l1] rfl rfl ⟨rfl, rfl⟩ hu9 rfl rfl (e186 (d + 2) hy2) ?_
  refine rn_steps 0 10 [.ref l0, .int l1, .retAddr 0, .retAddr 0, .retAddr 0] [.int y2.1] rfl ?_
  refine rn_br (c := ¬ y2.1 = 0) rfl rfl decide_eq_true_iff (fun hb => ?_) (fun hb => ?_)
  · rw [if_neg hb] at h
    refine rn_steps 1 20 [.ref l0, .int l1, .retAddr 0, .retAddr 0, .retAddr 0] [.ref l0] rfl ?_
    obtain ⟨u6, hu6, h⟩ := Option.bind_eq_some_iff.mp h
    obtain ⟨y3, hy3, h⟩ := Option.bind_eq_some_iff.mp h
    refine rn_callV [] rfl rfl ⟨rfl, rfl⟩ hu6 rfl rfl (e188 (d + 2) hy3) ?_
    refine rn_steps 2 25 [.ref l0, .int l1, .retAddr 0, .retAddr 0, .retAddr 0] [.int l1, .ref l0] rfl ?_
    obtain ⟨u5, hu5, h⟩ := Option.bind_eq_some_iff.mp h
    obtain ⟨y4, hy4, h⟩ := Option.bind_eq_some_iff.mp h
    refine rn_callV [.int l1] rfl rfl ⟨rfl, rfl⟩ hu5 rfl rfl (e199 d hy4) ?_
    refine rn_steps 5 35 [.ref l0, .int l1, .int y4.1, .int (-2), .int 0] [] rfl ?_
    exact e235_35 d 1100 _ _ _ _ _ _ _ h
  · rw [if_pos (Decidable.not_not.mp hb)] at h
    refine rn_steps 2 15 [.ref l0, .int l1, .retAddr 0, .retAddr 0, .retAddr 0] [.int 1, .ref l0] rfl ?_
    obtain ⟨u8, hu8, h⟩ := Option.bind_eq_some_iff.mp h
    obtain ⟨y7, hy7, h⟩ := Option.bind_eq_some_iff.mp h
    refine rn_callV [.int 1] rfl rfl ⟨rfl, rfl⟩ hu8 rfl rfl (e151 (d + 2) hy7) ?_
    refine rn_steps 0 18 [.ref l0, .int l1, .retAddr 0, .retAddr 0, .retAddr 0] [.int y7.1] rfl ?_
    cases h
    exact rn_ret rfl rfl rfl
def f236_161 (l0 : Nat) (l3 : Int32) (σ : xM) : Option (Int32 × xM) :=
  (cO σ l0 9).bind fun u2 =>
  (f154 l0 l3 σ).bind fun y1 =>
  some (y1.1, y1.2)
set_option maxRecDepth 20000 in
set_option maxHeartbeats 1000000 in
theorem e236_161 (d : Nat) (l0 : Nat) (l3 : Int32) (x1 x2 x4 : Value) (σ : xM) (y : Int32 × xM) (h : f236_161 l0 l3 σ = some y) : Rn (d + 2) 236 161 [.ref l0, x1, x2, .int l3, x4] [] σ (some (.int y.1), y.2) := by
  unfold f236_161 at h
  refine rn_steps 2 163 [.ref l0, x1, x2, .int l3, x4] [.int l3, .ref l0] rfl ?_
  obtain ⟨u2, hu2, h⟩ := Option.bind_eq_some_iff.mp h
  obtain ⟨y1, hy1, h⟩ := Option.bind_eq_some_iff.mp h
  refine rn_callV [.int l3] rfl rfl ⟨rfl, rfl⟩ hu2 rfl rfl (e154 (d + 1) hy1) ?_
  refine rn_steps 0 166 [.ref l0, x1, x2, .int l3, x4] [.int y1.1] rfl ?_
  cases h
  exact rn_ret rfl rfl rfl
def f236_155 (K74 : Nat → Int32 → Int32 → Int32 → Int32 → xM → Option (Int32 × xM)) (l0 : Nat) (l1 : Int32) (l2 : Int32) (l3 : Int32) (l4 : Int32) (σ : xM) : Option (Int32 × xM) :=
  K74 l0 l1 l2 l3 (l4 + 1) σ
set_option maxRecDepth 20000 in
set_option maxHeartbeats 1000000 in
theorem e236_155 (d : Nat) (K74 : Nat → Int32 → Int32 → Int32 → Int32 → xM → Option (Int32 × xM)) (hK74 : ∀ (l0 : Nat) (l1 : Int32) (l2 : Int32) (l3 : Int32) (l4 : Int32) (σ : xM) (y : Int32 × xM), K74 l0 l1 l2 l3 l4 σ = some y → Rn (d + 2) 236 74 [.ref l0, .int l1, .int l2, .int l3, .int l4] [] σ (some (.int y.1), y.2)) (l0 : Nat) (l1 : Int32) (l2 : Int32) (l3 : Int32) (l4 : Int32) (σ : xM) (y : Int32 × xM) (h : f236_155 K74 l0 l1 l2 l3 l4 σ = some y) : Rn (d + 2) 236 155 [.ref l0, .int l1, .int l2, .int l3, .int l4] [] σ (some (.int y.1), y.2) := by
  unfold f236_155 at h
  refine rn_steps 2 74 [.ref l0, .int l1, .int l2, .int l3, .int (l4 + 1)] [] rfl ?_
  exact hK74 _ _ _ _ _ _ _ h
def f236_148 (K74 : Nat → Int32 → Int32 → Int32 → Int32 → xM → Option (Int32 × xM)) (l0 : Nat) (l1 : Int32) (l2 : Int32) (l3 : Int32) (l4 : Int32) (σ : xM) : Option (Int32 × xM) :=
  f236_155 K74 l0 l1 l2 (l3 ||| (1 <<< (l4 &&& 31))) l4 σ
set_option maxRecDepth 20000 in
set_option maxHeartbeats 1000000 in
theorem e236_148 (d : Nat) (K74 : Nat → Int32 → Int32 → Int32 → Int32 → xM → Option (Int32 × xM)) (hK74 : ∀ (l0 : Nat) (l1 : Int32) (l2 : Int32) (l3 : Int32) (l4 : Int32) (σ : xM) (y : Int32 × xM), K74 l0 l1 l2 l3 l4 σ = some y → Rn (d + 2) 236 74 [.ref l0, .int l1, .int l2, .int l3, .int l4] [] σ (some (.int y.1), y.2)) (l0 : Nat) (l1 : Int32) (l2 : Int32) (l3 : Int32) (l4 : Int32) (σ : xM) (y : Int32 × xM) (h : f236_148 K74 l0 l1 l2 l3 l4 σ = some y) : Rn (d + 2) 236 148 [.ref l0, .int l1, .int l2, .int l3, .int l4] [] σ (some (.int y.1), y.2) := by
  unfold f236_148 at h
  refine rn_steps 6 155 [.ref l0, .int l1, .int l2, .int (l3 ||| (1 <<< (l4 &&& 31))), .int l4] [] rfl ?_
  exact e236_155 d _ hK74 _ _ _ _ _ _ _ h
def f236_74 : Nat → Nat → Int32 → Int32 → Int32 → Int32 → xM → Option (Int32 × xM)
  | 0, _, _, _, _, _, _ => none
  | n + 1, l0, l1, l2, l3, l4, σ =>
    (gR σ l0 9 3).bind fun r1 =>
    (gI σ r1 8 2).bind fun v2 =>
    if v2 ≤ l4 then
    f236_161 l0 l3 σ
    else
    if l4 = l1 then
    f236_155 (f236_74 n) l0 l1 l2 l3 l4 σ
    else
    if l4 = l2 then
    f236_155 (f236_74 n) l0 l1 l2 l3 l4 σ
    else
    (cO σ l0 9).bind fun u12 =>
    (f190 l0 l4 σ).bind fun y3 =>
    if y3.1 = 0 then
    f236_155 (f236_74 n) l0 l1 l2 l3 l4 y3.2
    else
    (cO y3.2 l0 9).bind fun u11 =>
    (f191 l0 l4 l2 y3.2).bind fun y4 =>
    (cO y4.2 l0 9).bind fun u10 =>
    (f191 l0 l1 l2 y4.2).bind fun y5 =>
    if y5.1 < y4.1 then
    f236_148 (f236_74 n) l0 l1 l2 l3 l4 y5.2
    else
    (cO y5.2 l0 9).bind fun u9 =>
    (f191 l0 l4 l2 y5.2).bind fun y6 =>
    (cO y6.2 l0 9).bind fun u8 =>
    (f191 l0 l1 l2 y6.2).bind fun y7 =>
    if y6.1 = y7.1 then
    if l1 ≤ l4 then
    f236_155 (f236_74 n) l0 l1 l2 l3 l4 y7.2
    else
    f236_148 (f236_74 n) l0 l1 l2 l3 l4 y7.2
    else
    f236_155 (f236_74 n) l0 l1 l2 l3 l4 y7.2
set_option maxRecDepth 20000 in
set_option maxHeartbeats 1000000 in
theorem e236_74 (d : Nat) : ∀ (n : Nat) (l0 : Nat) (l1 : Int32) (l2 : Int32) (l3 : Int32) (l4 : Int32) (σ : xM) (y : Int32 × xM), f236_74 n l0 l1 l2 l3 l4 σ = some y → Rn (d + 2) 236 74 [.ref l0, .int l1, .int l2, .int l3, .int l4] [] σ (some (.int y.1), y.2) := by
  intro n
  induction n with
  | zero => intro l0 l1 l2 l3 l4 σ y h; cases h
  | succ n ih =>
    intro l0 l1 l2 l3 l4 σ y h
    unfold f236_74 at h
    refine rn_steps 2 77 [.ref l0, .int l1, .int l2, .int l3, .int l4] [.ref l0, .int l4] rfl ?_
    obtain ⟨r1, hr1, h⟩ := Option.bind_eq_some_iff.mp h
    refine rn_gR (c := 9) (f := 3) rfl rfl ⟨⟨rfl, rfl⟩, rfl⟩ hr1 ?_
    refine rn_steps 0 80 [.ref l0, .int l1, .int l2, .int l3, .int l4] [.ref r1, .int l4] rfl ?_
    obtain ⟨v2, hv2, h⟩ := Option.bind_eq_some_iff.mp h
    refine rn_gI (c := 8) (f := 2) rfl rfl ⟨⟨rfl, rfl⟩, Or.inl rfl⟩ hv2 ?_
    refine rn_steps 0 83 [.ref l0, .int l1, .int l2, .int l3, .int l4] [.int v2, .int l4] rfl ?_
    refine rn_br (c := v2 ≤ l4) rfl rfl decide_eq_true_iff (fun hb => ?_) (fun hb => ?_)
    · rw [if_pos hb] at h
      refine rn_steps 0 161 [.ref l0, .int l1, .int l2, .int l3, .int l4] [] rfl ?_
      exact e236_161 d _ _ _ _ _ _ _ h
    · rw [if_neg hb] at h
      refine rn_steps 2 89 [.ref l0, .int l1, .int l2, .int l3, .int l4] [.int l1, .int l4] rfl ?_
      refine rn_br (c := l4 = l1) rfl rfl decide_eq_true_iff (fun hb => ?_) (fun hb => ?_)
      · rw [if_pos hb] at h
        refine rn_steps 0 155 [.ref l0, .int l1, .int l2, .int l3, .int l4] [] rfl ?_
        exact e236_155 d _ ih _ _ _ _ _ _ _ h
      · rw [if_neg hb] at h
        refine rn_steps 2 95 [.ref l0, .int l1, .int l2, .int l3, .int l4] [.int l2, .int l4] rfl ?_
        refine rn_br (c := l4 = l2) rfl rfl decide_eq_true_iff (fun hb => ?_) (fun hb => ?_)
        · rw [if_pos hb] at h
          refine rn_steps 0 155 [.ref l0, .int l1, .int l2, .int l3, .int l4] [] rfl ?_
          exact e236_155 d _ ih _ _ _ _ _ _ _ h
        · rw [if_neg hb] at h
          refine rn_steps 2 101 [.ref l0, .int l1, .int l2, .int l3, .int l4] [.int l4, .ref l0] rfl ?_
          obtain ⟨u12, hu12, h⟩ := Option.bind_eq_some_iff.mp h
          obtain ⟨y3, hy3, h⟩ := Option.bind_eq_some_iff.mp h
          refine rn_callV [.int l4] rfl rfl ⟨rfl, rfl⟩ hu12 rfl rfl (e190 d hy3) ?_
          refine rn_steps 0 104 [.ref l0, .int l1, .int l2, .int l3, .int l4] [.int y3.1] rfl ?_
          refine rn_br (c := ¬ y3.1 = 0) rfl rfl decide_eq_true_iff (fun hb => ?_) (fun hb => ?_)
          · rw [if_neg hb] at h
            refine rn_steps 3 114 [.ref l0, .int l1, .int l2, .int l3, .int l4] [.int l2, .int l4, .ref l0] rfl ?_
            obtain ⟨u11, hu11, h⟩ := Option.bind_eq_some_iff.mp h
            obtain ⟨y4, hy4, h⟩ := Option.bind_eq_some_iff.mp h
            refine rn_callV [.int l4, .int l2] rfl rfl ⟨rfl, rfl⟩ hu11 rfl rfl (e191 (d + 1) hy4) ?_
            refine rn_steps 3 120 [.ref l0, .int l1, .int l2, .int l3, .int l4] [.int l2, .int l1, .ref l0, .int y4.1] rfl ?_
            obtain ⟨u10, hu10, h⟩ := Option.bind_eq_some_iff.mp h
            obtain ⟨y5, hy5, h⟩ := Option.bind_eq_some_iff.mp h
            refine rn_callV [.int l1, .int l2] rfl rfl ⟨rfl, rfl⟩ hu10 rfl rfl (e191 (d + 1) hy5) ?_
            refine rn_steps 0 123 [.ref l0, .int l1, .int l2, .int l3, .int l4] [.int y5.1, .int y4.1] rfl ?_
            refine rn_br (c := y5.1 < y4.1) rfl rfl decide_eq_true_iff (fun hb => ?_) (fun hb => ?_)
            · rw [if_pos hb] at h
              refine rn_steps 0 148 [.ref l0, .int l1, .int l2, .int l3, .int l4] [] rfl ?_
              exact e236_148 d _ ih _ _ _ _ _ _ _ h
            · rw [if_neg hb] at h
              refine rn_steps 3 130 [.ref l0, .int l1, .int l2, .int l3, .int l4] [.int l2, .int l4, .ref l0] rfl ?_
              obtain ⟨u9, hu9, h⟩ := Option.bind_eq_some_iff.mp h
              obtain ⟨y6, hy6, h⟩ := Option.bind_eq_some_iff.mp h
              refine rn_callV [.int l4, .int l2] rfl rfl ⟨rfl, rfl⟩ hu9 rfl rfl (e191 (d + 1) hy6) ?_
              refine rn_steps 3 136 [.ref l0, .int l1, .int l2, .int l3, .int l4] [.int l2, .int l1, .ref l0, .int y6.1] rfl ?_
              obtain ⟨u8, hu8, h⟩ := Option.bind_eq_some_iff.mp h
              obtain ⟨y7, hy7, h⟩ := Option.bind_eq_some_iff.mp h
              refine rn_callV [.int l1, .int l2] rfl rfl ⟨rfl, rfl⟩ hu8 rfl rfl (e191 (d + 1) hy7) ?_
              refine rn_steps 0 139 [.ref l0, .int l1, .int l2, .int l3, .int l4] [.int y7.1, .int y6.1] rfl ?_
              refine rn_br (c := ¬ y6.1 = y7.1) rfl rfl decide_eq_true_iff (fun hb => ?_) (fun hb => ?_)
              · rw [if_neg hb] at h
                refine rn_steps 0 155 [.ref l0, .int l1, .int l2, .int l3, .int l4] [] rfl ?_
                exact e236_155 d _ ih _ _ _ _ _ _ _ h
              · rw [if_pos (Decidable.not_not.mp hb)] at h
                refine rn_steps 2 145 [.ref l0, .int l1, .int l2, .int l3, .int l4] [.int l1, .int l4] rfl ?_
                refine rn_br (c := l1 ≤ l4) rfl rfl decide_eq_true_iff (fun hb => ?_) (fun hb => ?_)
                · rw [if_pos hb] at h
                  refine rn_steps 0 155 [.ref l0, .int l1, .int l2, .int l3, .int l4] [] rfl ?_
                  exact e236_155 d _ ih _ _ _ _ _ _ _ h
                · rw [if_neg hb] at h
                  refine rn_steps 0 148 [.ref l0, .int l1, .int l2, .int l3, .int l4] [] rfl ?_
                  exact e236_148 d _ ih _ _ _ _ _ _ _ h
          · rw [if_pos (Decidable.not_not.mp hb)] at h
            refine rn_steps 1 155 [.ref l0, .int l1, .int l2, .int l3, .int l4] [] rfl ?_
            exact e236_155 d _ ih _ _ _ _ _ _ _ h
def f236_62 (l0 : Nat) (σ : xM) : Option (Int32 × xM) :=
  (cO σ l0 9).bind fun u2 =>
  (f154 l0 (-2) σ).bind fun y1 =>
  some (y1.1, y1.2)
set_option maxRecDepth 20000 in
set_option maxHeartbeats 1000000 in
theorem e236_62 (d : Nat) (l0 : Nat) (x1 x2 x3 x4 : Value) (σ : xM) (y : Int32 × xM) (h : f236_62 l0 σ = some y) : Rn (d + 2) 236 62 [.ref l0, x1, x2, x3, x4] [] σ (some (.int y.1), y.2) := by
  unfold f236_62 at h
  refine rn_steps 2 65 [.ref l0, x1, x2, x3, x4] [.int (-2), .ref l0] rfl ?_
  obtain ⟨u2, hu2, h⟩ := Option.bind_eq_some_iff.mp h
  obtain ⟨y1, hy1, h⟩ := Option.bind_eq_some_iff.mp h
  refine rn_callV [.int (-2)] rfl rfl ⟨rfl, rfl⟩ hu2 rfl rfl (e154 (d + 1) hy1) ?_
  refine rn_steps 0 68 [.ref l0, x1, x2, x3, x4] [.int y1.1] rfl ?_
  cases h
  exact rn_ret rfl rfl rfl
/-- LastAskedModel.rivals(II)I -/
def f236 (l0 : Nat) (l1 : Int32) (l2 : Int32) (σ : xM) : Option (Int32 × xM) :=
  (pI σ l0 9 0 0).bind fun σ1 =>
  (cO σ1 l0 9).bind fun u16 =>
  (f187 l0 l1 l2 σ1).bind fun y2 =>
  if y2.1 = 0 then
  (cO y2.2 l0 9).bind fun u15 =>
  (f151 l0 1 y2.2).bind fun y14 =>
  some (y14.1, y14.2)
  else
  (gR y2.2 l0 9 16).bind fun r3 =>
  (aI y2.2 r3 42).bind fun v4 =>
  (f157 v4 l2 y2.2).bind fun y5 =>
  if y5.1 = 0 then
  (cO y5.2 l0 9).bind fun u13 =>
  (f151 l0 5 y5.2).bind fun y12 =>
  some (y12.1, y12.2)
  else
  (cO y5.2 l0 9).bind fun u11 =>
  (f188 l0 y5.2).bind fun y6 =>
  (cO y6 l0 9).bind fun u10 =>
  (f190 l0 l1 y6).bind fun y7 =>
  if y7.1 = 0 then
  f236_62 l0 y7.2
  else
  (cO y7.2 l0 9).bind fun u9 =>
  (f191 l0 l1 l2 y7.2).bind fun y8 =>
  if y8.1 = (-1) then
  f236_62 l0 y8.2
  else
  f236_74 1100 l0 l1 l2 0 0 y8.2
set_option maxRecDepth 20000 in
set_option maxHeartbeats 1000000 in
theorem e236 (d : Nat) {l0 : Nat} {l1 : Int32} {l2 : Int32} {σ : xM} {y : Int32 × xM} (h : f236 l0 l1 l2 σ = some y) : Rn (d + 2) 236 0 [.ref l0, .int l1, .int l2, .retAddr 0, .retAddr 0] [] σ (some (.int y.1), y.2) := by
  unfold f236 at h
  refine rn_steps 2 2 [.ref l0, .int l1, .int l2, .retAddr 0, .retAddr 0] [.int 0, .ref l0] rfl ?_
  obtain ⟨σ1, hσ1, h⟩ := Option.bind_eq_some_iff.mp h
  refine rn_pI (c := 9) (f := 0) rfl rfl ⟨⟨rfl, rfl⟩, rfl⟩ hσ1 ?_
  refine rn_steps 3 8 [.ref l0, .int l1, .int l2, .retAddr 0, .retAddr 0] [.int l2, .int l1, .ref l0] rfl ?_
  obtain ⟨u16, hu16, h⟩ := Option.bind_eq_some_iff.mp h
  obtain ⟨y2, hy2, h⟩ := Option.bind_eq_some_iff.mp h
  refine rn_callV [.int l1, .int l2] rfl rfl ⟨rfl, rfl⟩ hu16 rfl rfl (e187 d hy2) ?_
  refine rn_steps 0 11 [.ref l0, .int l1, .int l2, .retAddr 0, .retAddr 0] [.int y2.1] rfl ?_
  refine rn_br (c := ¬ y2.1 = 0) rfl rfl decide_eq_true_iff (fun hb => ?_) (fun hb => ?_)
  · rw [if_neg hb] at h
    refine rn_steps 1 21 [.ref l0, .int l1, .int l2, .retAddr 0, .retAddr 0] [.ref l0] rfl ?_
    obtain ⟨r3, hr3, h⟩ := Option.bind_eq_some_iff.mp h
    refine rn_gR (c := 9) (f := 16) rfl rfl ⟨⟨rfl, rfl⟩, rfl⟩ hr3 ?_
    refine rn_steps 1 26 [.ref l0, .int l1, .int l2, .retAddr 0, .retAddr 0] [.int 42, .ref r3] rfl ?_
    obtain ⟨v4, hv4, h⟩ := Option.bind_eq_some_iff.mp h
    refine rn_aI rfl hv4 ?_
    refine rn_steps 1 28 [.ref l0, .int l1, .int l2, .retAddr 0, .retAddr 0] [.int l2, .int v4] rfl ?_
    obtain ⟨y5, hy5, h⟩ := Option.bind_eq_some_iff.mp h
    refine rn_callS [.int v4, .int l2] rfl rfl rfl ⟨rfl, rfl, rfl⟩ rfl rfl (e157 (d + 1) hy5) ?_
    refine rn_steps 0 31 [.ref l0, .int l1, .int l2, .retAddr 0, .retAddr 0] [.int y5.1] rfl ?_
    refine rn_br (c := ¬ y5.1 = 0) rfl rfl decide_eq_true_iff (fun hb => ?_) (fun hb => ?_)
    · rw [if_neg hb] at h
      refine rn_steps 1 41 [.ref l0, .int l1, .int l2, .retAddr 0, .retAddr 0] [.ref l0] rfl ?_
      obtain ⟨u11, hu11, h⟩ := Option.bind_eq_some_iff.mp h
      obtain ⟨y6, hy6, h⟩ := Option.bind_eq_some_iff.mp h
      refine rn_callV [] rfl rfl ⟨rfl, rfl⟩ hu11 rfl rfl (e188 (d + 1) hy6) ?_
      refine rn_steps 2 46 [.ref l0, .int l1, .int l2, .retAddr 0, .retAddr 0] [.int l1, .ref l0] rfl ?_
      obtain ⟨u10, hu10, h⟩ := Option.bind_eq_some_iff.mp h
      obtain ⟨y7, hy7, h⟩ := Option.bind_eq_some_iff.mp h
      refine rn_callV [.int l1] rfl rfl ⟨rfl, rfl⟩ hu10 rfl rfl (e190 d hy7) ?_
      refine rn_steps 0 49 [.ref l0, .int l1, .int l2, .retAddr 0, .retAddr 0] [.int y7.1] rfl ?_
      refine rn_br (c := y7.1 = 0) rfl rfl decide_eq_true_iff (fun hb => ?_) (fun hb => ?_)
      · rw [if_pos hb] at h
        refine rn_steps 0 62 [.ref l0, .int l1, .int l2, .retAddr 0, .retAddr 0] [] rfl ?_
        exact e236_62 d _ _ _ _ _ _ _ h
      · rw [if_neg hb] at h
        refine rn_steps 3 55 [.ref l0, .int l1, .int l2, .retAddr 0, .retAddr 0] [.int l2, .int l1, .ref l0] rfl ?_
        obtain ⟨u9, hu9, h⟩ := Option.bind_eq_some_iff.mp h
        obtain ⟨y8, hy8, h⟩ := Option.bind_eq_some_iff.mp h
        refine rn_callV [.int l1, .int l2] rfl rfl ⟨rfl, rfl⟩ hu9 rfl rfl (e191 (d + 1) hy8) ?_
        refine rn_steps 1 59 [.ref l0, .int l1, .int l2, .retAddr 0, .retAddr 0] [.int (-1), .int y8.1] rfl ?_
        refine rn_br (c := ¬ y8.1 = (-1)) rfl rfl decide_eq_true_iff (fun hb => ?_) (fun hb => ?_)
        · rw [if_neg hb] at h
          refine rn_steps 4 74 [.ref l0, .int l1, .int l2, .int 0, .int 0] [] rfl ?_
          exact e236_74 d 1100 _ _ _ _ _ _ _ h
        · rw [if_pos (Decidable.not_not.mp hb)] at h
          refine rn_steps 0 62 [.ref l0, .int l1, .int l2, .retAddr 0, .retAddr 0] [] rfl ?_
          exact e236_62 d _ _ _ _ _ _ _ h
    · rw [if_pos (Decidable.not_not.mp hb)] at h
      refine rn_steps 2 36 [.ref l0, .int l1, .int l2, .retAddr 0, .retAddr 0] [.int 5, .ref l0] rfl ?_
      obtain ⟨u13, hu13, h⟩ := Option.bind_eq_some_iff.mp h
      obtain ⟨y12, hy12, h⟩ := Option.bind_eq_some_iff.mp h
      refine rn_callV [.int 5] rfl rfl ⟨rfl, rfl⟩ hu13 rfl rfl (e151 (d + 1) hy12) ?_
      refine rn_steps 0 39 [.ref l0, .int l1, .int l2, .retAddr 0, .retAddr 0] [.int y12.1] rfl ?_
      cases h
      exact rn_ret rfl rfl rfl
  · rw [if_pos (Decidable.not_not.mp hb)] at h
    refine rn_steps 2 16 [.ref l0, .int l1, .int l2, .retAddr 0, .retAddr 0] [.int 1, .ref l0] rfl ?_
    obtain ⟨u15, hu15, h⟩ := Option.bind_eq_some_iff.mp h
    obtain ⟨y14, hy14, h⟩ := Option.bind_eq_some_iff.mp h
    refine rn_callV [.int 1] rfl rfl ⟨rfl, rfl⟩ hu15 rfl rfl (e151 (d + 1) hy14) ?_
    refine rn_steps 0 19 [.ref l0, .int l1, .int l2, .retAddr 0, .retAddr 0] [.int y14.1] rfl ?_
    cases h
    exact rn_ret rfl rfl rfl
def f237_59 (s0 : Int32) (σ : xM) : Option (Int32 × xM) :=
  some (s0, σ)
set_option maxRecDepth 20000 in
set_option maxHeartbeats 1000000 in
theorem e237_59 (d : Nat) (s0 : Int32) (x0 x1 x2 : Value) (σ : xM) (y : Int32 × xM) (h : f237_59 s0 σ = some y) : Rn (d + 0) 237 59 [x0, x1, x2] [.int s0] σ (some (.int y.1), y.2) := by
  unfold f237_59 at h
  cases h
  exact rn_ret rfl rfl rfl
/-- LastAskedModel.low(I)I -/
def f237 (l0 : Nat) (l1 : Int32) (σ : xM) : Option (Int32 × xM) :=
  (gR σ l0 9 3).bind fun r1 =>
  (gR σ r1 8 12).bind fun r2 =>
  (gR σ l0 9 3).bind fun r3 =>
  (gR σ r3 8 13).bind fun r4 =>
  (aI σ r4 l1).bind fun v5 =>
  (gR σ l0 9 3).bind fun r6 =>
  (gR σ r6 8 14).bind fun r7 =>
  (aI σ r7 l1).bind fun v8 =>
  (aI σ r2 ((6 * v5) + v8)).bind fun v9 =>
  (gR σ l0 9 3).bind fun r10 =>
  (gR σ r10 8 15).bind fun r11 =>
  (aI σ r11 l1).bind fun v12 =>
  if v9 ≤ v12 then
  f237_59 0 σ
  else
  (gR σ l0 9 3).bind fun r13 =>
  (gR σ r13 8 15).bind fun r14 =>
  (aI σ r14 l1).bind fun v15 =>
  f237_59 (v9 - v15) σ
set_option maxRecDepth 20000 in
set_option maxHeartbeats 1000000 in
theorem e237 (d : Nat) {l0 : Nat} {l1 : Int32} {σ : xM} {y : Int32 × xM} (h : f237 l0 l1 σ = some y) : Rn (d + 0) 237 0 [.ref l0, .int l1, .retAddr 0] [] σ (some (.int y.1), y.2) := by
  unfold f237 at h
  refine rn_steps 1 1 [.ref l0, .int l1, .retAddr 0] [.ref l0] rfl ?_
  obtain ⟨r1, hr1, h⟩ := Option.bind_eq_some_iff.mp h
  refine rn_gR (c := 9) (f := 3) rfl rfl ⟨⟨rfl, rfl⟩, rfl⟩ hr1 ?_
  refine rn_steps 0 4 [.ref l0, .int l1, .retAddr 0] [.ref r1] rfl ?_
  obtain ⟨r2, hr2, h⟩ := Option.bind_eq_some_iff.mp h
  refine rn_gR (c := 8) (f := 12) rfl rfl ⟨⟨rfl, rfl⟩, rfl⟩ hr2 ?_
  refine rn_steps 2 10 [.ref l0, .int l1, .retAddr 0] [.ref l0, .int 6, .ref r2] rfl ?_
  obtain ⟨r3, hr3, h⟩ := Option.bind_eq_some_iff.mp h
  refine rn_gR (c := 9) (f := 3) rfl rfl ⟨⟨rfl, rfl⟩, rfl⟩ hr3 ?_
  refine rn_steps 0 13 [.ref l0, .int l1, .retAddr 0] [.ref r3, .int 6, .ref r2] rfl ?_
  obtain ⟨r4, hr4, h⟩ := Option.bind_eq_some_iff.mp h
  refine rn_gR (c := 8) (f := 13) rfl rfl ⟨⟨rfl, rfl⟩, rfl⟩ hr4 ?_
  refine rn_steps 1 17 [.ref l0, .int l1, .retAddr 0] [.int l1, .ref r4, .int 6, .ref r2] rfl ?_
  obtain ⟨v5, hv5, h⟩ := Option.bind_eq_some_iff.mp h
  refine rn_aI rfl hv5 ?_
  refine rn_steps 2 20 [.ref l0, .int l1, .retAddr 0] [.ref l0, .int (6 * v5), .ref r2] rfl ?_
  obtain ⟨r6, hr6, h⟩ := Option.bind_eq_some_iff.mp h
  refine rn_gR (c := 9) (f := 3) rfl rfl ⟨⟨rfl, rfl⟩, rfl⟩ hr6 ?_
  refine rn_steps 0 23 [.ref l0, .int l1, .retAddr 0] [.ref r6, .int (6 * v5), .ref r2] rfl ?_
  obtain ⟨r7, hr7, h⟩ := Option.bind_eq_some_iff.mp h
  refine rn_gR (c := 8) (f := 14) rfl rfl ⟨⟨rfl, rfl⟩, rfl⟩ hr7 ?_
  refine rn_steps 1 27 [.ref l0, .int l1, .retAddr 0] [.int l1, .ref r7, .int (6 * v5), .ref r2] rfl ?_
  obtain ⟨v8, hv8, h⟩ := Option.bind_eq_some_iff.mp h
  refine rn_aI rfl hv8 ?_
  refine rn_steps 1 29 [.ref l0, .int l1, .retAddr 0] [.int ((6 * v5) + v8), .ref r2] rfl ?_
  obtain ⟨v9, hv9, h⟩ := Option.bind_eq_some_iff.mp h
  refine rn_aI rfl hv9 ?_
  refine rn_steps 3 33 [.ref l0, .int l1, .int v9] [.ref l0, .int v9] rfl ?_
  obtain ⟨r10, hr10, h⟩ := Option.bind_eq_some_iff.mp h
  refine rn_gR (c := 9) (f := 3) rfl rfl ⟨⟨rfl, rfl⟩, rfl⟩ hr10 ?_
  refine rn_steps 0 36 [.ref l0, .int l1, .int v9] [.ref r10, .int v9] rfl ?_
  obtain ⟨r11, hr11, h⟩ := Option.bind_eq_some_iff.mp h
  refine rn_gR (c := 8) (f := 15) rfl rfl ⟨⟨rfl, rfl⟩, rfl⟩ hr11 ?_
  refine rn_steps 1 40 [.ref l0, .int l1, .int v9] [.int l1, .ref r11, .int v9] rfl ?_
  obtain ⟨v12, hv12, h⟩ := Option.bind_eq_some_iff.mp h
  refine rn_aI rfl hv12 ?_
  refine rn_steps 0 41 [.ref l0, .int l1, .int v9] [.int v12, .int v9] rfl ?_
  refine rn_br (c := v9 ≤ v12) rfl rfl decide_eq_true_iff (fun hb => ?_) (fun hb => ?_)
  · rw [if_pos hb] at h
    refine rn_steps 1 59 [.ref l0, .int l1, .int v9] [.int 0] rfl ?_
    exact e237_59 d _ _ _ _ _ _ h
  · rw [if_neg hb] at h
    refine rn_steps 2 46 [.ref l0, .int l1, .int v9] [.ref l0, .int v9] rfl ?_
    obtain ⟨r13, hr13, h⟩ := Option.bind_eq_some_iff.mp h
    refine rn_gR (c := 9) (f := 3) rfl rfl ⟨⟨rfl, rfl⟩, rfl⟩ hr13 ?_
    refine rn_steps 0 49 [.ref l0, .int l1, .int v9] [.ref r13, .int v9] rfl ?_
    obtain ⟨r14, hr14, h⟩ := Option.bind_eq_some_iff.mp h
    refine rn_gR (c := 8) (f := 15) rfl rfl ⟨⟨rfl, rfl⟩, rfl⟩ hr14 ?_
    refine rn_steps 1 53 [.ref l0, .int l1, .int v9] [.int l1, .ref r14, .int v9] rfl ?_
    obtain ⟨v15, hv15, h⟩ := Option.bind_eq_some_iff.mp h
    refine rn_aI rfl hv15 ?_
    refine rn_steps 2 59 [.ref l0, .int l1, .int v9] [.int (v9 - v15)] rfl ?_
    exact e237_59 d _ _ _ _ _ _ h
/-- LastAskedModel.many(I)I -/
def f238 (l0 : Nat) (l1 : Int32) (σ : xM) : Option (Int32 × xM) :=
  (gR σ l0 9 3).bind fun r1 =>
  (gR σ r1 8 12).bind fun r2 =>
  (gR σ l0 9 3).bind fun r3 =>
  (gR σ r3 8 13).bind fun r4 =>
  (aI σ r4 l1).bind fun v5 =>
  (gR σ l0 9 3).bind fun r6 =>
  (gR σ r6 8 14).bind fun r7 =>
  (aI σ r7 l1).bind fun v8 =>
  (aI σ r2 ((6 * v5) + v8)).bind fun v9 =>
  (gR σ l0 9 3).bind fun r10 =>
  (gR σ r10 8 15).bind fun r11 =>
  (aI σ r11 l1).bind fun v12 =>
  (cO σ l0 9).bind fun u14 =>
  (f237 l0 l1 σ).bind fun y13 =>
  some ((((v9 + v12) - y13.1) + 1), y13.2)
set_option maxRecDepth 20000 in
set_option maxHeartbeats 1000000 in
theorem e238 (d : Nat) {l0 : Nat} {l1 : Int32} {σ : xM} {y : Int32 × xM} (h : f238 l0 l1 σ = some y) : Rn (d + 1) 238 0 [.ref l0, .int l1] [] σ (some (.int y.1), y.2) := by
  unfold f238 at h
  refine rn_steps 1 1 [.ref l0, .int l1] [.ref l0] rfl ?_
  obtain ⟨r1, hr1, h⟩ := Option.bind_eq_some_iff.mp h
  refine rn_gR (c := 9) (f := 3) rfl rfl ⟨⟨rfl, rfl⟩, rfl⟩ hr1 ?_
  refine rn_steps 0 4 [.ref l0, .int l1] [.ref r1] rfl ?_
  obtain ⟨r2, hr2, h⟩ := Option.bind_eq_some_iff.mp h
  refine rn_gR (c := 8) (f := 12) rfl rfl ⟨⟨rfl, rfl⟩, rfl⟩ hr2 ?_
  refine rn_steps 2 10 [.ref l0, .int l1] [.ref l0, .int 6, .ref r2] rfl ?_
  obtain ⟨r3, hr3, h⟩ := Option.bind_eq_some_iff.mp h
  refine rn_gR (c := 9) (f := 3) rfl rfl ⟨⟨rfl, rfl⟩, rfl⟩ hr3 ?_
  refine rn_steps 0 13 [.ref l0, .int l1] [.ref r3, .int 6, .ref r2] rfl ?_
  obtain ⟨r4, hr4, h⟩ := Option.bind_eq_some_iff.mp h
  refine rn_gR (c := 8) (f := 13) rfl rfl ⟨⟨rfl, rfl⟩, rfl⟩ hr4 ?_
  refine rn_steps 1 17 [.ref l0, .int l1] [.int l1, .ref r4, .int 6, .ref r2] rfl ?_
  obtain ⟨v5, hv5, h⟩ := Option.bind_eq_some_iff.mp h
  refine rn_aI rfl hv5 ?_
  refine rn_steps 2 20 [.ref l0, .int l1] [.ref l0, .int (6 * v5), .ref r2] rfl ?_
  obtain ⟨r6, hr6, h⟩ := Option.bind_eq_some_iff.mp h
  refine rn_gR (c := 9) (f := 3) rfl rfl ⟨⟨rfl, rfl⟩, rfl⟩ hr6 ?_
  refine rn_steps 0 23 [.ref l0, .int l1] [.ref r6, .int (6 * v5), .ref r2] rfl ?_
  obtain ⟨r7, hr7, h⟩ := Option.bind_eq_some_iff.mp h
  refine rn_gR (c := 8) (f := 14) rfl rfl ⟨⟨rfl, rfl⟩, rfl⟩ hr7 ?_
  refine rn_steps 1 27 [.ref l0, .int l1] [.int l1, .ref r7, .int (6 * v5), .ref r2] rfl ?_
  obtain ⟨v8, hv8, h⟩ := Option.bind_eq_some_iff.mp h
  refine rn_aI rfl hv8 ?_
  refine rn_steps 1 29 [.ref l0, .int l1] [.int ((6 * v5) + v8), .ref r2] rfl ?_
  obtain ⟨v9, hv9, h⟩ := Option.bind_eq_some_iff.mp h
  refine rn_aI rfl hv9 ?_
  refine rn_steps 1 31 [.ref l0, .int l1] [.ref l0, .int v9] rfl ?_
  obtain ⟨r10, hr10, h⟩ := Option.bind_eq_some_iff.mp h
  refine rn_gR (c := 9) (f := 3) rfl rfl ⟨⟨rfl, rfl⟩, rfl⟩ hr10 ?_
  refine rn_steps 0 34 [.ref l0, .int l1] [.ref r10, .int v9] rfl ?_
  obtain ⟨r11, hr11, h⟩ := Option.bind_eq_some_iff.mp h
  refine rn_gR (c := 8) (f := 15) rfl rfl ⟨⟨rfl, rfl⟩, rfl⟩ hr11 ?_
  refine rn_steps 1 38 [.ref l0, .int l1] [.int l1, .ref r11, .int v9] rfl ?_
  obtain ⟨v12, hv12, h⟩ := Option.bind_eq_some_iff.mp h
  refine rn_aI rfl hv12 ?_
  refine rn_steps 3 42 [.ref l0, .int l1] [.int l1, .ref l0, .int (v9 + v12)] rfl ?_
  obtain ⟨u14, hu14, h⟩ := Option.bind_eq_some_iff.mp h
  obtain ⟨y13, hy13, h⟩ := Option.bind_eq_some_iff.mp h
  refine rn_callV [.int l1] rfl rfl ⟨rfl, rfl⟩ hu14 rfl rfl (e237 d hy13) ?_
  refine rn_steps 3 48 [.ref l0, .int l1] [.int (((v9 + v12) - y13.1) + 1)] rfl ?_
  cases h
  exact rn_ret rfl rfl rfl
def f239_51 (σ : xM) : Option (Int32 × xM) :=
  some ((-2), σ)
set_option maxRecDepth 20000 in
set_option maxHeartbeats 1000000 in
theorem e239_51 (d : Nat) (x0 x1 : Value) (σ : xM) (y : Int32 × xM) (h : f239_51 σ = some y) : Rn (d + 3) 239 51 [x0, x1] [] σ (some (.int y.1), y.2) := by
  unfold f239_51 at h
  refine rn_steps 1 53 [x0, x1] [.int (-2)] rfl ?_
  cases h
  exact rn_ret rfl rfl rfl
def f239_45 (K2 : Nat → Int32 → xM → Option (Int32 × xM)) (l0 : Nat) (l1 : Int32) (σ : xM) : Option (Int32 × xM) :=
  K2 l0 (l1 + 1) σ
set_option maxRecDepth 20000 in
set_option maxHeartbeats 1000000 in
theorem e239_45 (d : Nat) (K2 : Nat → Int32 → xM → Option (Int32 × xM)) (hK2 : ∀ (l0 : Nat) (l1 : Int32) (σ : xM) (y : Int32 × xM), K2 l0 l1 σ = some y → Rn (d + 3) 239 2 [.ref l0, .int l1] [] σ (some (.int y.1), y.2)) (l0 : Nat) (l1 : Int32) (σ : xM) (y : Int32 × xM) (h : f239_45 K2 l0 l1 σ = some y) : Rn (d + 3) 239 45 [.ref l0, .int l1] [] σ (some (.int y.1), y.2) := by
  unfold f239_45 at h
  refine rn_steps 2 2 [.ref l0, .int (l1 + 1)] [] rfl ?_
  exact hK2 _ _ _ _ h
def f239_2 : Nat → Nat → Int32 → xM → Option (Int32 × xM)
  | 0, _, _, _ => none
  | n + 1, l0, l1, σ =>
    (gR σ l0 9 3).bind fun r1 =>
    (gI σ r1 8 2).bind fun v2 =>
    if v2 ≤ l1 then
    f239_51 σ
    else
    (gR σ l0 9 3).bind fun r3 =>
    (gR σ r3 8 11).bind fun r4 =>
    (aI σ r4 l1).bind fun v5 =>
    if v5 = (-1) then
    f239_45 (f239_2 n) l0 l1 σ
    else
    (cO σ l0 9).bind fun u10 =>
    (f192 l0 l1 σ).bind fun y6 =>
    (gR y6.2 l0 9 3).bind fun r7 =>
    (gR y6.2 r7 8 11).bind fun r8 =>
    (aI y6.2 r8 l1).bind fun v9 =>
    if y6.1 = v9 then
    f239_45 (f239_2 n) l0 l1 y6.2
    else
    some (l1, y6.2)
set_option maxRecDepth 20000 in
set_option maxHeartbeats 1000000 in
theorem e239_2 (d : Nat) : ∀ (n : Nat) (l0 : Nat) (l1 : Int32) (σ : xM) (y : Int32 × xM), f239_2 n l0 l1 σ = some y → Rn (d + 3) 239 2 [.ref l0, .int l1] [] σ (some (.int y.1), y.2) := by
  intro n
  induction n with
  | zero => intro l0 l1 σ y h; cases h
  | succ n ih =>
    intro l0 l1 σ y h
    unfold f239_2 at h
    refine rn_steps 2 4 [.ref l0, .int l1] [.ref l0, .int l1] rfl ?_
    obtain ⟨r1, hr1, h⟩ := Option.bind_eq_some_iff.mp h
    refine rn_gR (c := 9) (f := 3) rfl rfl ⟨⟨rfl, rfl⟩, rfl⟩ hr1 ?_
    refine rn_steps 0 7 [.ref l0, .int l1] [.ref r1, .int l1] rfl ?_
    obtain ⟨v2, hv2, h⟩ := Option.bind_eq_some_iff.mp h
    refine rn_gI (c := 8) (f := 2) rfl rfl ⟨⟨rfl, rfl⟩, Or.inl rfl⟩ hv2 ?_
    refine rn_steps 0 10 [.ref l0, .int l1] [.int v2, .int l1] rfl ?_
    refine rn_br (c := v2 ≤ l1) rfl rfl decide_eq_true_iff (fun hb => ?_) (fun hb => ?_)
    · rw [if_pos hb] at h
      refine rn_steps 0 51 [.ref l0, .int l1] [] rfl ?_
      exact e239_51 d _ _ _ _ h
    · rw [if_neg hb] at h
      refine rn_steps 1 14 [.ref l0, .int l1] [.ref l0] rfl ?_
      obtain ⟨r3, hr3, h⟩ := Option.bind_eq_some_iff.mp h
      refine rn_gR (c := 9) (f := 3) rfl rfl ⟨⟨rfl, rfl⟩, rfl⟩ hr3 ?_
      refine rn_steps 0 17 [.ref l0, .int l1] [.ref r3] rfl ?_
      obtain ⟨r4, hr4, h⟩ := Option.bind_eq_some_iff.mp h
      refine rn_gR (c := 8) (f := 11) rfl rfl ⟨⟨rfl, rfl⟩, rfl⟩ hr4 ?_
      refine rn_steps 1 21 [.ref l0, .int l1] [.int l1, .ref r4] rfl ?_
      obtain ⟨v5, hv5, h⟩ := Option.bind_eq_some_iff.mp h
      refine rn_aI rfl hv5 ?_
      refine rn_steps 1 23 [.ref l0, .int l1] [.int (-1), .int v5] rfl ?_
      refine rn_br (c := v5 = (-1)) rfl rfl decide_eq_true_iff (fun hb => ?_) (fun hb => ?_)
      · rw [if_pos hb] at h
        refine rn_steps 0 45 [.ref l0, .int l1] [] rfl ?_
        exact e239_45 d _ ih _ _ _ _ h
      · rw [if_neg hb] at h
        refine rn_steps 2 28 [.ref l0, .int l1] [.int l1, .ref l0] rfl ?_
        obtain ⟨u10, hu10, h⟩ := Option.bind_eq_some_iff.mp h
        obtain ⟨y6, hy6, h⟩ := Option.bind_eq_some_iff.mp h
        refine rn_callV [.int l1] rfl rfl ⟨rfl, rfl⟩ hu10 rfl rfl (e192 d hy6) ?_
        refine rn_steps 1 32 [.ref l0, .int l1] [.ref l0, .int y6.1] rfl ?_
        obtain ⟨r7, hr7, h⟩ := Option.bind_eq_some_iff.mp h
        refine rn_gR (c := 9) (f := 3) rfl rfl ⟨⟨rfl, rfl⟩, rfl⟩ hr7 ?_
        refine rn_steps 0 35 [.ref l0, .int l1] [.ref r7, .int y6.1] rfl ?_
        obtain ⟨r8, hr8, h⟩ := Option.bind_eq_some_iff.mp h
        refine rn_gR (c := 8) (f := 11) rfl rfl ⟨⟨rfl, rfl⟩, rfl⟩ hr8 ?_
        refine rn_steps 1 39 [.ref l0, .int l1] [.int l1, .ref r8, .int y6.1] rfl ?_
        obtain ⟨v9, hv9, h⟩ := Option.bind_eq_some_iff.mp h
        refine rn_aI rfl hv9 ?_
        refine rn_steps 0 40 [.ref l0, .int l1] [.int v9, .int y6.1] rfl ?_
        refine rn_br (c := y6.1 = v9) rfl rfl decide_eq_true_iff (fun hb => ?_) (fun hb => ?_)
        · rw [if_pos hb] at h
          refine rn_steps 0 45 [.ref l0, .int l1] [] rfl ?_
          exact e239_45 d _ ih _ _ _ _ h
        · rw [if_neg hb] at h
          refine rn_steps 1 44 [.ref l0, .int l1] [.int l1] rfl ?_
          cases h
          exact rn_ret rfl rfl rfl
/-- LastAskedModel.wrong()I -/
def f239 (l0 : Nat) (σ : xM) : Option (Int32 × xM) :=
  f239_2 1100 l0 0 σ
set_option maxRecDepth 20000 in
set_option maxHeartbeats 1000000 in
theorem e239 (d : Nat) {l0 : Nat} {σ : xM} {y : Int32 × xM} (h : f239 l0 σ = some y) : Rn (d + 3) 239 0 [.ref l0, .retAddr 0] [] σ (some (.int y.1), y.2) := by
  unfold f239 at h
  refine rn_steps 2 2 [.ref l0, .int 0] [] rfl ?_
  exact e239_2 d 1100 _ _ _ _ h
def f240_368 (l3 : Int32) (σ : xM) : Option (Int32 × xM) :=
  rZ l3 σ
set_option maxRecDepth 20000 in
set_option maxHeartbeats 1000000 in
theorem e240_368 (d : Nat) (l3 : Int32) (x0 x1 x2 x4 x5 x6 x7 : Value) (σ : xM) (y : Int32 × xM) (h : f240_368 l3 σ = some y) : Rn (d + 4) 240 368 [x0, x1, x2, .int l3, x4, x5, x6, x7] [] σ (some (.int y.1), y.2) := by
  unfold f240_368 at h
  refine rn_steps 1 369 [x0, x1, x2, .int l3, x4, x5, x6, x7] [.int l3] rfl ?_
  exact rn_retZ rfl rfl h
def f240_362 (K93 : Nat → Int32 → Int32 → Int32 → Int32 → Int32 → xM → Option (Int32 × xM)) (l0 : Nat) (l1 : Int32) (l2 : Int32) (l3 : Int32) (l4 : Int32) (l5 : Int32) (σ : xM) : Option (Int32 × xM) :=
  K93 l0 l1 l2 l3 l4 (l5 + 1) σ
set_option maxRecDepth 20000 in
set_option maxHeartbeats 1000000 in
theorem e240_362 (d : Nat) (K93 : Nat → Int32 → Int32 → Int32 → Int32 → Int32 → xM → Option (Int32 × xM)) (hK93 : ∀ (l0 : Nat) (l1 : Int32) (l2 : Int32) (l3 : Int32) (l4 : Int32) (l5 : Int32) (x6 x7 : Value) (σ : xM) (y : Int32 × xM), K93 l0 l1 l2 l3 l4 l5 σ = some y → Rn (d + 4) 240 93 [.ref l0, .int l1, .int l2, .int l3, .int l4, .int l5, x6, x7] [] σ (some (.int y.1), y.2)) (l0 : Nat) (l1 : Int32) (l2 : Int32) (l3 : Int32) (l4 : Int32) (l5 : Int32) (x6 x7 : Value) (σ : xM) (y : Int32 × xM) (h : f240_362 K93 l0 l1 l2 l3 l4 l5 σ = some y) : Rn (d + 4) 240 362 [.ref l0, .int l1, .int l2, .int l3, .int l4, .int l5, x6, x7] [] σ (some (.int y.1), y.2) := by
  unfold f240_362 at h
  refine rn_steps 2 93 [.ref l0, .int l1, .int l2, .int l3, .int l4, .int (l5 + 1), x6, x7] [] rfl ?_
  exact hK93 _ _ _ _ _ _ _ _ _ _ h
def f240_356 (K93 : Nat → Int32 → Int32 → Int32 → Int32 → Int32 → xM → Option (Int32 × xM)) (K312 : Nat → Int32 → Int32 → Int32 → Int32 → Int32 → Int32 → xM → Option (Int32 × xM)) (l0 : Nat) (l1 : Int32) (l2 : Int32) (l3 : Int32) (l4 : Int32) (l5 : Int32) (l7 : Int32) (σ : xM) : Option (Int32 × xM) :=
  K312 l0 l1 l2 l3 l4 l5 (l7 + 1) σ
set_option maxRecDepth 20000 in
set_option maxHeartbeats 1000000 in
theorem e240_356 (d : Nat) (K93 : Nat → Int32 → Int32 → Int32 → Int32 → Int32 → xM → Option (Int32 × xM)) (hK93 : ∀ (l0 : Nat) (l1 : Int32) (l2 : Int32) (l3 : Int32) (l4 : Int32) (l5 : Int32) (x6 x7 : Value) (σ : xM) (y : Int32 × xM), K93 l0 l1 l2 l3 l4 l5 σ = some y → Rn (d + 4) 240 93 [.ref l0, .int l1, .int l2, .int l3, .int l4, .int l5, x6, x7] [] σ (some (.int y.1), y.2)) (K312 : Nat → Int32 → Int32 → Int32 → Int32 → Int32 → Int32 → xM → Option (Int32 × xM)) (hK312 : ∀ (l0 : Nat) (l1 : Int32) (l2 : Int32) (l3 : Int32) (l4 : Int32) (l5 : Int32) (l7 : Int32) (x6 : Value) (σ : xM) (y : Int32 × xM), K312 l0 l1 l2 l3 l4 l5 l7 σ = some y → Rn (d + 4) 240 312 [.ref l0, .int l1, .int l2, .int l3, .int l4, .int l5, x6, .int l7] [] σ (some (.int y.1), y.2)) (l0 : Nat) (l1 : Int32) (l2 : Int32) (l3 : Int32) (l4 : Int32) (l5 : Int32) (l7 : Int32) (x6 : Value) (σ : xM) (y : Int32 × xM) (h : f240_356 K93 K312 l0 l1 l2 l3 l4 l5 l7 σ = some y) : Rn (d + 4) 240 356 [.ref l0, .int l1, .int l2, .int l3, .int l4, .int l5, x6, .int l7] [] σ (some (.int y.1), y.2) := by
  unfold f240_356 at h
  refine rn_steps 2 312 [.ref l0, .int l1, .int l2, .int l3, .int l4, .int l5, x6, .int (l7 + 1)] [] rfl ?_
  exact hK312 _ _ _ _ _ _ _ _ _ _ h
def f240_312 (K93 : Nat → Int32 → Int32 → Int32 → Int32 → Int32 → xM → Option (Int32 × xM)) : Nat → Nat → Int32 → Int32 → Int32 → Int32 → Int32 → Int32 → xM → Option (Int32 × xM)
  | 0, _, _, _, _, _, _, _, _ => none
  | n + 1, l0, l1, l2, l3, l4, l5, l7, σ =>
    (gR σ l0 9 3).bind fun r1 =>
    (gI σ r1 8 2).bind fun v2 =>
    if v2 ≤ l7 then
    f240_362 K93 l0 l1 l2 l3 l4 l5 σ
    else
    (cO σ l0 9).bind fun u9 =>
    (f192 l0 l7 σ).bind fun y3 =>
    if y3.1 = (-2) then
    f240_356 K93 (f240_312 K93 n) l0 l1 l2 l3 l4 l5 l7 y3.2
    else
    (gR y3.2 l0 9 32).bind fun r4 =>
    (cO y3.2 l0 9).bind fun u8 =>
    (f192 l0 l7 y3.2).bind fun y5 =>
    (aI y5.2 r4 ((6 * y5.1) + l7)).bind fun v6 =>
    (tI y5.2 r4 ((6 * y5.1) + l7) (v6 + 1)).bind fun σ7 =>
    f240_356 K93 (f240_312 K93 n) l0 l1 l2 l3 l4 l5 l7 σ7
set_option maxRecDepth 20000 in
set_option maxHeartbeats 1000000 in
theorem e240_312 (d : Nat) (K93 : Nat → Int32 → Int32 → Int32 → Int32 → Int32 → xM → Option (Int32 × xM)) (hK93 : ∀ (l0 : Nat) (l1 : Int32) (l2 : Int32) (l3 : Int32) (l4 : Int32) (l5 : Int32) (x6 x7 : Value) (σ : xM) (y : Int32 × xM), K93 l0 l1 l2 l3 l4 l5 σ = some y → Rn (d + 4) 240 93 [.ref l0, .int l1, .int l2, .int l3, .int l4, .int l5, x6, x7] [] σ (some (.int y.1), y.2)) : ∀ (n : Nat) (l0 : Nat) (l1 : Int32) (l2 : Int32) (l3 : Int32) (l4 : Int32) (l5 : Int32) (l7 : Int32) (x6 : Value) (σ : xM) (y : Int32 × xM), f240_312 K93 n l0 l1 l2 l3 l4 l5 l7 σ = some y → Rn (d + 4) 240 312 [.ref l0, .int l1, .int l2, .int l3, .int l4, .int l5, x6, .int l7] [] σ (some (.int y.1), y.2) := by
  intro n
  induction n with
  | zero => intro l0 l1 l2 l3 l4 l5 l7 x6 σ y h; cases h
  | succ n ih =>
    intro l0 l1 l2 l3 l4 l5 l7 x6 σ y h
    unfold f240_312 at h
    refine rn_steps 2 315 [.ref l0, .int l1, .int l2, .int l3, .int l4, .int l5, x6, .int l7] [.ref l0, .int l7] rfl ?_
    obtain ⟨r1, hr1, h⟩ := Option.bind_eq_some_iff.mp h
    refine rn_gR (c := 9) (f := 3) rfl rfl ⟨⟨rfl, rfl⟩, rfl⟩ hr1 ?_
    refine rn_steps 0 318 [.ref l0, .int l1, .int l2, .int l3, .int l4, .int l5, x6, .int l7] [.ref r1, .int l7] rfl ?_
    obtain ⟨v2, hv2, h⟩ := Option.bind_eq_some_iff.mp h
    refine rn_gI (c := 8) (f := 2) rfl rfl ⟨⟨rfl, rfl⟩, Or.inl rfl⟩ hv2 ?_
    refine rn_steps 0 321 [.ref l0, .int l1, .int l2, .int l3, .int l4, .int l5, x6, .int l7] [.int v2, .int l7] rfl ?_
    refine rn_br (c := v2 ≤ l7) rfl rfl decide_eq_true_iff (fun hb => ?_) (fun hb => ?_)
    · rw [if_pos hb] at h
      refine rn_steps 0 362 [.ref l0, .int l1, .int l2, .int l3, .int l4, .int l5, x6, .int l7] [] rfl ?_
      exact e240_362 d _ hK93 _ _ _ _ _ _ _ _ _ _ h
    · rw [if_neg hb] at h
      refine rn_steps 2 327 [.ref l0, .int l1, .int l2, .int l3, .int l4, .int l5, x6, .int l7] [.int l7, .ref l0] rfl ?_
      obtain ⟨u9, hu9, h⟩ := Option.bind_eq_some_iff.mp h
      obtain ⟨y3, hy3, h⟩ := Option.bind_eq_some_iff.mp h
      refine rn_callV [.int l7] rfl rfl ⟨rfl, rfl⟩ hu9 rfl rfl (e192 (d + 1) hy3) ?_
      refine rn_steps 1 332 [.ref l0, .int l1, .int l2, .int l3, .int l4, .int l5, x6, .int l7] [.int (-2), .int y3.1] rfl ?_
      refine rn_br (c := y3.1 = (-2)) rfl rfl decide_eq_true_iff (fun hb => ?_) (fun hb => ?_)
      · rw [if_pos hb] at h
        refine rn_steps 0 356 [.ref l0, .int l1, .int l2, .int l3, .int l4, .int l5, x6, .int l7] [] rfl ?_
        exact e240_356 d _ hK93 _ ih _ _ _ _ _ _ _ _ _ _ h
      · rw [if_neg hb] at h
        refine rn_steps 1 336 [.ref l0, .int l1, .int l2, .int l3, .int l4, .int l5, x6, .int l7] [.ref l0] rfl ?_
        obtain ⟨r4, hr4, h⟩ := Option.bind_eq_some_iff.mp h
        refine rn_gR (c := 9) (f := 32) rfl rfl ⟨⟨rfl, rfl⟩, rfl⟩ hr4 ?_
        refine rn_steps 3 344 [.ref l0, .int l1, .int l2, .int l3, .int l4, .int l5, x6, .int l7] [.int l7, .ref l0, .int 6, .ref r4] rfl ?_
        obtain ⟨u8, hu8, h⟩ := Option.bind_eq_some_iff.mp h
        obtain ⟨y5, hy5, h⟩ := Option.bind_eq_some_iff.mp h
        refine rn_callV [.int l7] rfl rfl ⟨rfl, rfl⟩ hu8 rfl rfl (e192 (d + 1) hy5) ?_
        refine rn_steps 4 352 [.ref l0, .int l1, .int l2, .int l3, .int l4, .int l5, x6, .int l7] [.int ((6 * y5.1) + l7), .ref r4, .int ((6 * y5.1) + l7), .ref r4] rfl ?_
        obtain ⟨v6, hv6, h⟩ := Option.bind_eq_some_iff.mp h
        refine rn_aI rfl hv6 ?_
        refine rn_steps 2 355 [.ref l0, .int l1, .int l2, .int l3, .int l4, .int l5, x6, .int l7] [.int (v6 + 1), .int ((6 * y5.1) + l7), .ref r4] rfl ?_
        obtain ⟨σ7, hσ7, h⟩ := Option.bind_eq_some_iff.mp h
        refine rn_tI rfl hσ7 ?_
        refine rn_steps 0 356 [.ref l0, .int l1, .int l2, .int l3, .int l4, .int l5, x6, .int l7] [] rfl ?_
        exact e240_356 d _ hK93 _ ih _ _ _ _ _ _ _ _ _ _ h
def f240_309 (K93 : Nat → Int32 → Int32 → Int32 → Int32 → Int32 → xM → Option (Int32 × xM)) (l0 : Nat) (l1 : Int32) (l2 : Int32) (l3 : Int32) (l4 : Int32) (l5 : Int32) (σ : xM) : Option (Int32 × xM) :=
  f240_312 K93 1100 l0 l1 l2 l3 l4 l5 0 σ
set_option maxRecDepth 20000 in
set_option maxHeartbeats 1000000 in
theorem e240_309 (d : Nat) (K93 : Nat → Int32 → Int32 → Int32 → Int32 → Int32 → xM → Option (Int32 × xM)) (hK93 : ∀ (l0 : Nat) (l1 : Int32) (l2 : Int32) (l3 : Int32) (l4 : Int32) (l5 : Int32) (x6 x7 : Value) (σ : xM) (y : Int32 × xM), K93 l0 l1 l2 l3 l4 l5 σ = some y → Rn (d + 4) 240 93 [.ref l0, .int l1, .int l2, .int l3, .int l4, .int l5, x6, x7] [] σ (some (.int y.1), y.2)) (l0 : Nat) (l1 : Int32) (l2 : Int32) (l3 : Int32) (l4 : Int32) (l5 : Int32) (x6 x7 : Value) (σ : xM) (y : Int32 × xM) (h : f240_309 K93 l0 l1 l2 l3 l4 l5 σ = some y) : Rn (d + 4) 240 309 [.ref l0, .int l1, .int l2, .int l3, .int l4, .int l5, x6, x7] [] σ (some (.int y.1), y.2) := by
  unfold f240_309 at h
  refine rn_steps 2 312 [.ref l0, .int l1, .int l2, .int l3, .int l4, .int l5, x6, .int 0] [] rfl ?_
  exact e240_312 d _ hK93 1100 _ _ _ _ _ _ _ _ _ _ h
def f240_269 (K93 : Nat → Int32 → Int32 → Int32 → Int32 → Int32 → xM → Option (Int32 × xM)) : Nat → Nat → Int32 → Int32 → Int32 → Int32 → Int32 → Int32 → xM → Option (Int32 × xM)
  | 0, _, _, _, _, _, _, _, _ => none
  | n + 1, l0, l1, l2, l3, l4, l5, l7, σ =>
    (gR σ l0 9 3).bind fun r1 =>
    (gI σ r1 8 5).bind fun v2 =>
    if v2 ≤ l7 then
    f240_309 K93 l0 l1 l2 l3 l4 l5 σ
    else
    (gR σ l0 9 31).bind fun r3 =>
    (gR σ l0 9 30).bind fun r4 =>
    (aI σ r4 l7).bind fun v5 =>
    (aI σ r3 ((7 * l7) + v5)).bind fun v6 =>
    (tI σ r3 ((7 * l7) + v5) (v6 + 1)).bind fun σ7 =>
    (f240_269 K93 n) l0 l1 l2 l3 l4 l5 (l7 + 1) σ7
set_option maxRecDepth 20000 in
set_option maxHeartbeats 1000000 in
theorem e240_269 (d : Nat) (K93 : Nat → Int32 → Int32 → Int32 → Int32 → Int32 → xM → Option (Int32 × xM)) (hK93 : ∀ (l0 : Nat) (l1 : Int32) (l2 : Int32) (l3 : Int32) (l4 : Int32) (l5 : Int32) (x6 x7 : Value) (σ : xM) (y : Int32 × xM), K93 l0 l1 l2 l3 l4 l5 σ = some y → Rn (d + 4) 240 93 [.ref l0, .int l1, .int l2, .int l3, .int l4, .int l5, x6, x7] [] σ (some (.int y.1), y.2)) : ∀ (n : Nat) (l0 : Nat) (l1 : Int32) (l2 : Int32) (l3 : Int32) (l4 : Int32) (l5 : Int32) (l7 : Int32) (x6 : Value) (σ : xM) (y : Int32 × xM), f240_269 K93 n l0 l1 l2 l3 l4 l5 l7 σ = some y → Rn (d + 4) 240 269 [.ref l0, .int l1, .int l2, .int l3, .int l4, .int l5, x6, .int l7] [] σ (some (.int y.1), y.2) := by
  intro n
  induction n with
  | zero => intro l0 l1 l2 l3 l4 l5 l7 x6 σ y h; cases h
  | succ n ih =>
    intro l0 l1 l2 l3 l4 l5 l7 x6 σ y h
    unfold f240_269 at h
    refine rn_steps 2 272 [.ref l0, .int l1, .int l2, .int l3, .int l4, .int l5, x6, .int l7] [.ref l0, .int l7] rfl ?_
    obtain ⟨r1, hr1, h⟩ := Option.bind_eq_some_iff.mp h
    refine rn_gR (c := 9) (f := 3) rfl rfl ⟨⟨rfl, rfl⟩, rfl⟩ hr1 ?_
    refine rn_steps 0 275 [.ref l0, .int l1, .int l2, .int l3, .int l4, .int l5, x6, .int l7] [.ref r1, .int l7] rfl ?_
    obtain ⟨v2, hv2, h⟩ := Option.bind_eq_some_iff.mp h
    refine rn_gI (c := 8) (f := 5) rfl rfl ⟨⟨rfl, rfl⟩, Or.inl rfl⟩ hv2 ?_
    refine rn_steps 0 278 [.ref l0, .int l1, .int l2, .int l3, .int l4, .int l5, x6, .int l7] [.int v2, .int l7] rfl ?_
    refine rn_br (c := v2 ≤ l7) rfl rfl decide_eq_true_iff (fun hb => ?_) (fun hb => ?_)
    · rw [if_pos hb] at h
      refine rn_steps 0 309 [.ref l0, .int l1, .int l2, .int l3, .int l4, .int l5, x6, .int l7] [] rfl ?_
      exact e240_309 d _ hK93 _ _ _ _ _ _ _ _ _ _ h
    · rw [if_neg hb] at h
      refine rn_steps 1 282 [.ref l0, .int l1, .int l2, .int l3, .int l4, .int l5, x6, .int l7] [.ref l0] rfl ?_
      obtain ⟨r3, hr3, h⟩ := Option.bind_eq_some_iff.mp h
      refine rn_gR (c := 9) (f := 31) rfl rfl ⟨⟨rfl, rfl⟩, rfl⟩ hr3 ?_
      refine rn_steps 4 291 [.ref l0, .int l1, .int l2, .int l3, .int l4, .int l5, x6, .int l7] [.ref l0, .int (7 * l7), .ref r3] rfl ?_
      obtain ⟨r4, hr4, h⟩ := Option.bind_eq_some_iff.mp h
      refine rn_gR (c := 9) (f := 30) rfl rfl ⟨⟨rfl, rfl⟩, rfl⟩ hr4 ?_
      refine rn_steps 1 296 [.ref l0, .int l1, .int l2, .int l3, .int l4, .int l5, x6, .int l7] [.int l7, .ref r4, .int (7 * l7), .ref r3] rfl ?_
      obtain ⟨v5, hv5, h⟩ := Option.bind_eq_some_iff.mp h
      refine rn_aI rfl hv5 ?_
      refine rn_steps 2 299 [.ref l0, .int l1, .int l2, .int l3, .int l4, .int l5, x6, .int l7] [.int ((7 * l7) + v5), .ref r3, .int ((7 * l7) + v5), .ref r3] rfl ?_
      obtain ⟨v6, hv6, h⟩ := Option.bind_eq_some_iff.mp h
      refine rn_aI rfl hv6 ?_
      refine rn_steps 2 302 [.ref l0, .int l1, .int l2, .int l3, .int l4, .int l5, x6, .int l7] [.int (v6 + 1), .int ((7 * l7) + v5), .ref r3] rfl ?_
      obtain ⟨σ7, hσ7, h⟩ := Option.bind_eq_some_iff.mp h
      refine rn_tI rfl hσ7 ?_
      refine rn_steps 2 269 [.ref l0, .int l1, .int l2, .int l3, .int l4, .int l5, x6, .int (l7 + 1)] [] rfl ?_
      exact ih _ _ _ _ _ _ _ _ _ _ h
def f240_256 (K93 : Nat → Int32 → Int32 → Int32 → Int32 → Int32 → xM → Option (Int32 × xM)) (l0 : Nat) (l1 : Int32) (l2 : Int32) (l3 : Int32) (l4 : Int32) (l5 : Int32) (σ : xM) : Option (Int32 × xM) :=
  (gI σ l0 9 33).bind fun v1 =>
  (pI σ l0 9 33 (v1 + 1)).bind fun σ2 =>
  f240_269 K93 1100 l0 l1 l2 l3 l4 l5 0 σ2
set_option maxRecDepth 20000 in
set_option maxHeartbeats 1000000 in
theorem e240_256 (d : Nat) (K93 : Nat → Int32 → Int32 → Int32 → Int32 → Int32 → xM → Option (Int32 × xM)) (hK93 : ∀ (l0 : Nat) (l1 : Int32) (l2 : Int32) (l3 : Int32) (l4 : Int32) (l5 : Int32) (x6 x7 : Value) (σ : xM) (y : Int32 × xM), K93 l0 l1 l2 l3 l4 l5 σ = some y → Rn (d + 4) 240 93 [.ref l0, .int l1, .int l2, .int l3, .int l4, .int l5, x6, x7] [] σ (some (.int y.1), y.2)) (l0 : Nat) (l1 : Int32) (l2 : Int32) (l3 : Int32) (l4 : Int32) (l5 : Int32) (x6 x7 : Value) (σ : xM) (y : Int32 × xM) (h : f240_256 K93 l0 l1 l2 l3 l4 l5 σ = some y) : Rn (d + 4) 240 256 [.ref l0, .int l1, .int l2, .int l3, .int l4, .int l5, x6, x7] [] σ (some (.int y.1), y.2) := by
  unfold f240_256 at h
  refine rn_steps 2 258 [.ref l0, .int l1, .int l2, .int l3, .int l4, .int l5, x6, x7] [.ref l0, .ref l0] rfl ?_
  obtain ⟨v1, hv1, h⟩ := Option.bind_eq_some_iff.mp h
  refine rn_gI (c := 9) (f := 33) rfl rfl ⟨⟨rfl, rfl⟩, Or.inl rfl⟩ hv1 ?_
  refine rn_steps 2 263 [.ref l0, .int l1, .int l2, .int l3, .int l4, .int l5, x6, x7] [.int (v1 + 1), .ref l0] rfl ?_
  obtain ⟨σ2, hσ2, h⟩ := Option.bind_eq_some_iff.mp h
  refine rn_pI (c := 9) (f := 33) rfl rfl ⟨⟨rfl, rfl⟩, rfl⟩ hσ2 ?_
  refine rn_steps 2 269 [.ref l0, .int l1, .int l2, .int l3, .int l4, .int l5, x6, .int 0] [] rfl ?_
  exact e240_269 d _ hK93 1100 _ _ _ _ _ _ _ _ _ _ h
def f240_253 (K93 : Nat → Int32 → Int32 → Int32 → Int32 → Int32 → xM → Option (Int32 × xM)) (l0 : Nat) (l1 : Int32) (l2 : Int32) (l3 : Int32) (l4 : Int32) (l5 : Int32) (s0 : Int32) (s1 : Nat) (σ : xM) : Option (Int32 × xM) :=
  (pI σ s1 9 34 s0).bind fun σ1 =>
  f240_256 K93 l0 l1 l2 l3 l4 l5 σ1
set_option maxRecDepth 20000 in
set_option maxHeartbeats 1000000 in
theorem e240_253 (d : Nat) (K93 : Nat → Int32 → Int32 → Int32 → Int32 → Int32 → xM → Option (Int32 × xM)) (hK93 : ∀ (l0 : Nat) (l1 : Int32) (l2 : Int32) (l3 : Int32) (l4 : Int32) (l5 : Int32) (x6 x7 : Value) (σ : xM) (y : Int32 × xM), K93 l0 l1 l2 l3 l4 l5 σ = some y → Rn (d + 4) 240 93 [.ref l0, .int l1, .int l2, .int l3, .int l4, .int l5, x6, x7] [] σ (some (.int y.1), y.2)) (l0 : Nat) (l1 : Int32) (l2 : Int32) (l3 : Int32) (l4 : Int32) (l5 : Int32) (s0 : Int32) (s1 : Nat) (x6 x7 : Value) (σ : xM) (y : Int32 × xM) (h : f240_253 K93 l0 l1 l2 l3 l4 l5 s0 s1 σ = some y) : Rn (d + 4) 240 253 [.ref l0, .int l1, .int l2, .int l3, .int l4, .int l5, x6, x7] [.int s0, .ref s1] σ (some (.int y.1), y.2) := by
  unfold f240_253 at h
  obtain ⟨σ1, hσ1, h⟩ := Option.bind_eq_some_iff.mp h
  refine rn_pI (c := 9) (f := 34) rfl rfl ⟨⟨rfl, rfl⟩, rfl⟩ hσ1 ?_
  refine rn_steps 0 256 [.ref l0, .int l1, .int l2, .int l3, .int l4, .int l5, x6, x7] [] rfl ?_
  exact e240_256 d _ hK93 _ _ _ _ _ _ _ _ _ _ h
def f240_203 (K93 : Nat → Int32 → Int32 → Int32 → Int32 → Int32 → xM → Option (Int32 × xM)) (l0 : Nat) (l1 : Int32) (l2 : Int32) (l3 : Int32) (l4 : Int32) (l5 : Int32) (σ : xM) : Option (Int32 × xM) :=
  (cO σ l0 9).bind fun u9 =>
  (f239 l0 σ).bind fun y1 =>
  if y1.1 = (-2) then
  (gI y1.2 l0 9 33).bind fun v2 =>
  if v2 = l1 then
  (gR y1.2 l0 9 3).bind fun r3 =>
  (gI y1.2 r3 8 5).bind fun v4 =>
  if v4 ≤ l2 then
  f240_253 K93 l0 l1 l2 1 l4 l5 0 l0 y1.2
  else
  (cO y1.2 l0 9).bind fun u8 =>
  (f237 l0 l2 y1.2).bind fun y5 =>
  (gR y5.2 l0 9 30).bind fun r6 =>
  (aI y5.2 r6 l2).bind fun v7 =>
  f240_253 K93 l0 l1 l2 1 l4 l5 (y5.1 + v7) l0 y5.2
  else
  f240_256 K93 l0 l1 l2 l3 l4 l5 y1.2
  else
  f240_362 K93 l0 l1 l2 l3 l4 l5 y1.2
set_option maxRecDepth 20000 in
set_option maxHeartbeats 1000000 in
theorem e240_203 (d : Nat) (K93 : Nat → Int32 → Int32 → Int32 → Int32 → Int32 → xM → Option (Int32 × xM)) (hK93 : ∀ (l0 : Nat) (l1 : Int32) (l2 : Int32) (l3 : Int32) (l4 : Int32) (l5 : Int32) (x6 x7 : Value) (σ : xM) (y : Int32 × xM), K93 l0 l1 l2 l3 l4 l5 σ = some y → Rn (d + 4) 240 93 [.ref l0, .int l1, .int l2, .int l3, .int l4, .int l5, x6, x7] [] σ (some (.int y.1), y.2)) (l0 : Nat) (l1 : Int32) (l2 : Int32) (l3 : Int32) (l4 : Int32) (l5 : Int32) (x6 x7 : Value) (σ : xM) (y : Int32 × xM) (h : f240_203 K93 l0 l1 l2 l3 l4 l5 σ = some y) : Rn (d + 4) 240 203 [.ref l0, .int l1, .int l2, .int l3, .int l4, .int l5, x6, x7] [] σ (some (.int y.1), y.2) := by
  unfold f240_203 at h
  refine rn_steps 1 204 [.ref l0, .int l1, .int l2, .int l3, .int l4, .int l5, x6, x7] [.ref l0] rfl ?_
  obtain ⟨u9, hu9, h⟩ := Option.bind_eq_some_iff.mp h
  obtain ⟨y1, hy1, h⟩ := Option.bind_eq_some_iff.mp h
  refine rn_callV [] rfl rfl ⟨rfl, rfl⟩ hu9 rfl rfl (e239 d hy1) ?_
  refine rn_steps 1 209 [.ref l0, .int l1, .int l2, .int l3, .int l4, .int l5, x6, x7] [.int (-2), .int y1.1] rfl ?_
  refine rn_br (c := y1.1 = (-2)) rfl rfl decide_eq_true_iff (fun hb => ?_) (fun hb => ?_)
  · rw [if_pos hb] at h
    refine rn_steps 1 216 [.ref l0, .int l1, .int l2, .int l3, .int l4, .int l5, x6, x7] [.ref l0] rfl ?_
    obtain ⟨v2, hv2, h⟩ := Option.bind_eq_some_iff.mp h
    refine rn_gI (c := 9) (f := 33) rfl rfl ⟨⟨rfl, rfl⟩, Or.inl rfl⟩ hv2 ?_
    refine rn_steps 1 220 [.ref l0, .int l1, .int l2, .int l3, .int l4, .int l5, x6, x7] [.int l1, .int v2] rfl ?_
    refine rn_br (c := ¬ v2 = l1) rfl rfl decide_eq_true_iff (fun hb => ?_) (fun hb => ?_)
    · rw [if_neg hb] at h
      refine rn_steps 0 256 [.ref l0, .int l1, .int l2, .int l3, .int l4, .int l5, x6, x7] [] rfl ?_
      exact e240_256 d _ hK93 _ _ _ _ _ _ _ _ _ _ h
    · rw [if_pos (Decidable.not_not.mp hb)] at h
      refine rn_steps 5 228 [.ref l0, .int l1, .int l2, .int 1, .int l4, .int l5, x6, x7] [.ref l0, .int l2, .ref l0] rfl ?_
      obtain ⟨r3, hr3, h⟩ := Option.bind_eq_some_iff.mp h
      refine rn_gR (c := 9) (f := 3) rfl rfl ⟨⟨rfl, rfl⟩, rfl⟩ hr3 ?_
      refine rn_steps 0 231 [.ref l0, .int l1, .int l2, .int 1, .int l4, .int l5, x6, x7] [.ref r3, .int l2, .ref l0] rfl ?_
      obtain ⟨v4, hv4, h⟩ := Option.bind_eq_some_iff.mp h
      refine rn_gI (c := 8) (f := 5) rfl rfl ⟨⟨rfl, rfl⟩, Or.inl rfl⟩ hv4 ?_
      refine rn_steps 0 234 [.ref l0, .int l1, .int l2, .int 1, .int l4, .int l5, x6, x7] [.int v4, .int l2, .ref l0] rfl ?_
      refine rn_br (c := v4 ≤ l2) rfl rfl decide_eq_true_iff (fun hb => ?_) (fun hb => ?_)
      · rw [if_pos hb] at h
        refine rn_steps 1 253 [.ref l0, .int l1, .int l2, .int 1, .int l4, .int l5, x6, x7] [.int 0, .ref l0] rfl ?_
        exact e240_253 d _ hK93 _ _ _ _ _ _ _ _ _ _ _ _ h
      · rw [if_neg hb] at h
        refine rn_steps 2 239 [.ref l0, .int l1, .int l2, .int 1, .int l4, .int l5, x6, x7] [.int l2, .ref l0, .ref l0] rfl ?_
        obtain ⟨u8, hu8, h⟩ := Option.bind_eq_some_iff.mp h
        obtain ⟨y5, hy5, h⟩ := Option.bind_eq_some_iff.mp h
        refine rn_callV [.int l2] rfl rfl ⟨rfl, rfl⟩ hu8 rfl rfl (e237 (d + 3) hy5) ?_
        refine rn_steps 1 243 [.ref l0, .int l1, .int l2, .int 1, .int l4, .int l5, x6, x7] [.ref l0, .int y5.1, .ref l0] rfl ?_
        obtain ⟨r6, hr6, h⟩ := Option.bind_eq_some_iff.mp h
        refine rn_gR (c := 9) (f := 30) rfl rfl ⟨⟨rfl, rfl⟩, rfl⟩ hr6 ?_
        refine rn_steps 1 247 [.ref l0, .int l1, .int l2, .int 1, .int l4, .int l5, x6, x7] [.int l2, .ref r6, .int y5.1, .ref l0] rfl ?_
        obtain ⟨v7, hv7, h⟩ := Option.bind_eq_some_iff.mp h
        refine rn_aI rfl hv7 ?_
        refine rn_steps 2 253 [.ref l0, .int l1, .int l2, .int 1, .int l4, .int l5, x6, x7] [.int (y5.1 + v7), .ref l0] rfl ?_
        exact e240_253 d _ hK93 _ _ _ _ _ _ _ _ _ _ _ _ h
  · rw [if_neg hb] at h
    refine rn_steps 1 362 [.ref l0, .int l1, .int l2, .int l3, .int l4, .int l5, x6, x7] [] rfl ?_
    exact e240_362 d _ hK93 _ _ _ _ _ _ _ _ _ _ h
def f240_119 (K93 : Nat → Int32 → Int32 → Int32 → Int32 → Int32 → xM → Option (Int32 × xM)) : Nat → Nat → Int32 → Int32 → Int32 → Int32 → Int32 → Int32 → Int32 → xM → Option (Int32 × xM)
  | 0, _, _, _, _, _, _, _, _, _ => none
  | n + 1, l0, l1, l2, l3, l4, l5, l6, l7, σ =>
    if l7 < 0 then
    f240_203 K93 l0 l1 l2 l3 l4 l5 σ
    else
    (gR σ l0 9 30).bind fun r1 =>
    (cO σ l0 9).bind fun u20 =>
    (f238 l0 l7 σ).bind fun y2 =>
    (rI l6 y2.1).bind fun v3 =>
    (tI y2.2 r1 l7 v3).bind fun σ4 =>
    (cO σ4 l0 9).bind fun u19 =>
    (f238 l0 l7 σ4).bind fun y5 =>
    (dI l6 y5.1).bind fun v6 =>
    (gR y5.2 l0 9 17).bind fun r7 =>
    (gR y5.2 l0 9 3).bind fun r8 =>
    (gR y5.2 r8 8 13).bind fun r9 =>
    (aI y5.2 r9 l7).bind fun v10 =>
    (gR y5.2 l0 9 3).bind fun r11 =>
    (gR y5.2 r11 8 14).bind fun r12 =>
    (aI y5.2 r12 l7).bind fun v13 =>
    (cO y5.2 l0 9).bind fun u18 =>
    (f237 l0 l7 y5.2).bind fun y14 =>
    (gR y14.2 l0 9 30).bind fun r15 =>
    (aI y14.2 r15 l7).bind fun v16 =>
    (tI y14.2 r7 ((6 + (6 * v10)) + v13) (y14.1 + v16)).bind fun σ17 =>
    (f240_119 K93 n) l0 l1 l2 l3 l4 l5 v6 (l7 + (-1)) σ17
set_option maxRecDepth 20000 in
set_option maxHeartbeats 1000000 in
theorem e240_119 (d : Nat) (K93 : Nat → Int32 → Int32 → Int32 → Int32 → Int32 → xM → Option (Int32 × xM)) (hK93 : ∀ (l0 : Nat) (l1 : Int32) (l2 : Int32) (l3 : Int32) (l4 : Int32) (l5 : Int32) (x6 x7 : Value) (σ : xM) (y : Int32 × xM), K93 l0 l1 l2 l3 l4 l5 σ = some y → Rn (d + 4) 240 93 [.ref l0, .int l1, .int l2, .int l3, .int l4, .int l5, x6, x7] [] σ (some (.int y.1), y.2)) : ∀ (n : Nat) (l0 : Nat) (l1 : Int32) (l2 : Int32) (l3 : Int32) (l4 : Int32) (l5 : Int32) (l6 : Int32) (l7 : Int32) (σ : xM) (y : Int32 × xM), f240_119 K93 n l0 l1 l2 l3 l4 l5 l6 l7 σ = some y → Rn (d + 4) 240 119 [.ref l0, .int l1, .int l2, .int l3, .int l4, .int l5, .int l6, .int l7] [] σ (some (.int y.1), y.2) := by
  intro n
  induction n with
  | zero => intro l0 l1 l2 l3 l4 l5 l6 l7 σ y h; cases h
  | succ n ih =>
    intro l0 l1 l2 l3 l4 l5 l6 l7 σ y h
    unfold f240_119 at h
    refine rn_steps 1 121 [.ref l0, .int l1, .int l2, .int l3, .int l4, .int l5, .int l6, .int l7] [.int l7] rfl ?_
    refine rn_br (c := l7 < 0) rfl rfl decide_eq_true_iff (fun hb => ?_) (fun hb => ?_)
    · rw [if_pos hb] at h
      refine rn_steps 0 203 [.ref l0, .int l1, .int l2, .int l3, .int l4, .int l5, .int l6, .int l7] [] rfl ?_
      exact e240_203 d _ hK93 _ _ _ _ _ _ _ _ _ _ h
    · rw [if_neg hb] at h
      refine rn_steps 1 125 [.ref l0, .int l1, .int l2, .int l3, .int l4, .int l5, .int l6, .int l7] [.ref l0] rfl ?_
      obtain ⟨r1, hr1, h⟩ := Option.bind_eq_some_iff.mp h
      refine rn_gR (c := 9) (f := 30) rfl rfl ⟨⟨rfl, rfl⟩, rfl⟩ hr1 ?_
      refine rn_steps 4 135 [.ref l0, .int l1, .int l2, .int l3, .int l4, .int l5, .int l6, .int l7] [.int l7, .ref l0, .int l6, .int l7, .ref r1] rfl ?_
      obtain ⟨u20, hu20, h⟩ := Option.bind_eq_some_iff.mp h
      obtain ⟨y2, hy2, h⟩ := Option.bind_eq_some_iff.mp h
      refine rn_callV [.int l7] rfl rfl ⟨rfl, rfl⟩ hu20 rfl rfl (e238 (d + 2) hy2) ?_
      refine rn_steps 0 138 [.ref l0, .int l1, .int l2, .int l3, .int l4, .int l5, .int l6, .int l7] [.int y2.1, .int l6, .int l7, .ref r1] rfl ?_
      obtain ⟨v3, hv3, h⟩ := Option.bind_eq_some_iff.mp h
      refine rn_rI rfl hv3 ?_
      refine rn_steps 0 139 [.ref l0, .int l1, .int l2, .int l3, .int l4, .int l5, .int l6, .int l7] [.int v3, .int l7, .ref r1] rfl ?_
      obtain ⟨σ4, hσ4, h⟩ := Option.bind_eq_some_iff.mp h
      refine rn_tI rfl hσ4 ?_
      refine rn_steps 3 145 [.ref l0, .int l1, .int l2, .int l3, .int l4, .int l5, .int l6, .int l7] [.int l7, .ref l0, .int l6] rfl ?_
      obtain ⟨u19, hu19, h⟩ := Option.bind_eq_some_iff.mp h
      obtain ⟨y5, hy5, h⟩ := Option.bind_eq_some_iff.mp h
      refine rn_callV [.int l7] rfl rfl ⟨rfl, rfl⟩ hu19 rfl rfl (e238 (d + 2) hy5) ?_
      refine rn_steps 0 148 [.ref l0, .int l1, .int l2, .int l3, .int l4, .int l5, .int l6, .int l7] [.int y5.1, .int l6] rfl ?_
      obtain ⟨v6, hv6, h⟩ := Option.bind_eq_some_iff.mp h
      refine rn_dI rfl hv6 ?_
      refine rn_steps 2 152 [.ref l0, .int l1, .int l2, .int l3, .int l4, .int l5, .int v6, .int l7] [.ref l0] rfl ?_
      obtain ⟨r7, hr7, h⟩ := Option.bind_eq_some_iff.mp h
      refine rn_gR (c := 9) (f := 17) rfl rfl ⟨⟨rfl, rfl⟩, rfl⟩ hr7 ?_
      refine rn_steps 3 160 [.ref l0, .int l1, .int l2, .int l3, .int l4, .int l5, .int v6, .int l7] [.ref l0, .int 6, .int 6, .ref r7] rfl ?_
      obtain ⟨r8, hr8, h⟩ := Option.bind_eq_some_iff.mp h
      refine rn_gR (c := 9) (f := 3) rfl rfl ⟨⟨rfl, rfl⟩, rfl⟩ hr8 ?_
      refine rn_steps 0 163 [.ref l0, .int l1, .int l2, .int l3, .int l4, .int l5, .int v6, .int l7] [.ref r8, .int 6, .int 6, .ref r7] rfl ?_
      obtain ⟨r9, hr9, h⟩ := Option.bind_eq_some_iff.mp h
      refine rn_gR (c := 8) (f := 13) rfl rfl ⟨⟨rfl, rfl⟩, rfl⟩ hr9 ?_
      refine rn_steps 1 168 [.ref l0, .int l1, .int l2, .int l3, .int l4, .int l5, .int v6, .int l7] [.int l7, .ref r9, .int 6, .int 6, .ref r7] rfl ?_
      obtain ⟨v10, hv10, h⟩ := Option.bind_eq_some_iff.mp h
      refine rn_aI rfl hv10 ?_
      refine rn_steps 3 172 [.ref l0, .int l1, .int l2, .int l3, .int l4, .int l5, .int v6, .int l7] [.ref l0, .int (6 + (6 * v10)), .ref r7] rfl ?_
      obtain ⟨r11, hr11, h⟩ := Option.bind_eq_some_iff.mp h
      refine rn_gR (c := 9) (f := 3) rfl rfl ⟨⟨rfl, rfl⟩, rfl⟩ hr11 ?_
      refine rn_steps 0 175 [.ref l0, .int l1, .int l2, .int l3, .int l4, .int l5, .int v6, .int l7] [.ref r11, .int (6 + (6 * v10)), .ref r7] rfl ?_
      obtain ⟨r12, hr12, h⟩ := Option.bind_eq_some_iff.mp h
      refine rn_gR (c := 8) (f := 14) rfl rfl ⟨⟨rfl, rfl⟩, rfl⟩ hr12 ?_
      refine rn_steps 1 180 [.ref l0, .int l1, .int l2, .int l3, .int l4, .int l5, .int v6, .int l7] [.int l7, .ref r12, .int (6 + (6 * v10)), .ref r7] rfl ?_
      obtain ⟨v13, hv13, h⟩ := Option.bind_eq_some_iff.mp h
      refine rn_aI rfl hv13 ?_
      refine rn_steps 3 185 [.ref l0, .int l1, .int l2, .int l3, .int l4, .int l5, .int v6, .int l7] [.int l7, .ref l0, .int ((6 + (6 * v10)) + v13), .ref r7] rfl ?_
      obtain ⟨u18, hu18, h⟩ := Option.bind_eq_some_iff.mp h
      obtain ⟨y14, hy14, h⟩ := Option.bind_eq_some_iff.mp h
      refine rn_callV [.int l7] rfl rfl ⟨rfl, rfl⟩ hu18 rfl rfl (e237 (d + 3) hy14) ?_
      refine rn_steps 1 189 [.ref l0, .int l1, .int l2, .int l3, .int l4, .int l5, .int v6, .int l7] [.ref l0, .int y14.1, .int ((6 + (6 * v10)) + v13), .ref r7] rfl ?_
      obtain ⟨r15, hr15, h⟩ := Option.bind_eq_some_iff.mp h
      refine rn_gR (c := 9) (f := 30) rfl rfl ⟨⟨rfl, rfl⟩, rfl⟩ hr15 ?_
      refine rn_steps 1 194 [.ref l0, .int l1, .int l2, .int l3, .int l4, .int l5, .int v6, .int l7] [.int l7, .ref r15, .int y14.1, .int ((6 + (6 * v10)) + v13), .ref r7] rfl ?_
      obtain ⟨v16, hv16, h⟩ := Option.bind_eq_some_iff.mp h
      refine rn_aI rfl hv16 ?_
      refine rn_steps 1 196 [.ref l0, .int l1, .int l2, .int l3, .int l4, .int l5, .int v6, .int l7] [.int (y14.1 + v16), .int ((6 + (6 * v10)) + v13), .ref r7] rfl ?_
      obtain ⟨σ17, hσ17, h⟩ := Option.bind_eq_some_iff.mp h
      refine rn_tI rfl hσ17 ?_
      refine rn_steps 2 119 [.ref l0, .int l1, .int l2, .int l3, .int l4, .int l5, .int v6, .int (l7 + (-1))] [] rfl ?_
      exact ih _ _ _ _ _ _ _ _ _ _ h
def f240_93 : Nat → Nat → Int32 → Int32 → Int32 → Int32 → Int32 → xM → Option (Int32 × xM)
  | 0, _, _, _, _, _, _, _ => none
  | n + 1, l0, l1, l2, l3, l4, l5, σ =>
    if l4 ≤ l5 then
    f240_368 l3 σ
    else
    (cO σ l0 9).bind fun u4 =>
    (f189 l0 σ).bind fun y1 =>
    (gR y1 l0 9 3).bind fun r2 =>
    (gI y1 r2 8 5).bind fun v3 =>
    f240_119 (f240_93 n) 1100 l0 l1 l2 l3 l4 l5 l5 (v3 - 1) y1
set_option maxRecDepth 20000 in
set_option maxHeartbeats 1000000 in
theorem e240_93 (d : Nat) : ∀ (n : Nat) (l0 : Nat) (l1 : Int32) (l2 : Int32) (l3 : Int32) (l4 : Int32) (l5 : Int32) (x6 x7 : Value) (σ : xM) (y : Int32 × xM), f240_93 n l0 l1 l2 l3 l4 l5 σ = some y → Rn (d + 4) 240 93 [.ref l0, .int l1, .int l2, .int l3, .int l4, .int l5, x6, x7] [] σ (some (.int y.1), y.2) := by
  intro n
  induction n with
  | zero => intro l0 l1 l2 l3 l4 l5 x6 x7 σ y h; cases h
  | succ n ih =>
    intro l0 l1 l2 l3 l4 l5 x6 x7 σ y h
    unfold f240_93 at h
    refine rn_steps 2 97 [.ref l0, .int l1, .int l2, .int l3, .int l4, .int l5, x6, x7] [.int l4, .int l5] rfl ?_
    refine rn_br (c := l4 ≤ l5) rfl rfl decide_eq_true_iff (fun hb => ?_) (fun hb => ?_)
    · rw [if_pos hb] at h
      refine rn_steps 0 368 [.ref l0, .int l1, .int l2, .int l3, .int l4, .int l5, x6, x7] [] rfl ?_
      exact e240_368 d _ _ _ _ _ _ _ _ _ _ h
    · rw [if_neg hb] at h
      refine rn_steps 3 105 [.ref l0, .int l1, .int l2, .int l3, .int l4, .int l5, .int l5, x7] [.ref l0] rfl ?_
      obtain ⟨u4, hu4, h⟩ := Option.bind_eq_some_iff.mp h
      obtain ⟨y1, hy1, h⟩ := Option.bind_eq_some_iff.mp h
      refine rn_callV [] rfl rfl ⟨rfl, rfl⟩ hu4 rfl rfl (e189 (d + 3) hy1) ?_
      refine rn_steps 1 109 [.ref l0, .int l1, .int l2, .int l3, .int l4, .int l5, .int l5, x7] [.ref l0] rfl ?_
      obtain ⟨r2, hr2, h⟩ := Option.bind_eq_some_iff.mp h
      refine rn_gR (c := 9) (f := 3) rfl rfl ⟨⟨rfl, rfl⟩, rfl⟩ hr2 ?_
      refine rn_steps 0 112 [.ref l0, .int l1, .int l2, .int l3, .int l4, .int l5, .int l5, x7] [.ref r2] rfl ?_
      obtain ⟨v3, hv3, h⟩ := Option.bind_eq_some_iff.mp h
      refine rn_gI (c := 8) (f := 5) rfl rfl ⟨⟨rfl, rfl⟩, Or.inl rfl⟩ hv3 ?_
      refine rn_steps 3 119 [.ref l0, .int l1, .int l2, .int l3, .int l4, .int l5, .int l5, .int (v3 - 1)] [] rfl ?_
      exact e240_119 d _ ih 1100 _ _ _ _ _ _ _ _ _ _ h
def f240_90 (l0 : Nat) (l1 : Int32) (l2 : Int32) (l3 : Int32) (l4 : Int32) (σ : xM) : Option (Int32 × xM) :=
  f240_93 1100 l0 l1 l2 l3 l4 0 σ
set_option maxRecDepth 20000 in
set_option maxHeartbeats 1000000 in
theorem e240_90 (d : Nat) (l0 : Nat) (l1 : Int32) (l2 : Int32) (l3 : Int32) (l4 : Int32) (x5 x6 x7 : Value) (σ : xM) (y : Int32 × xM) (h : f240_90 l0 l1 l2 l3 l4 σ = some y) : Rn (d + 4) 240 90 [.ref l0, .int l1, .int l2, .int l3, .int l4, x5, x6, x7] [] σ (some (.int y.1), y.2) := by
  unfold f240_90 at h
  refine rn_steps 2 93 [.ref l0, .int l1, .int l2, .int l3, .int l4, .int 0, x6, x7] [] rfl ?_
  exact e240_93 d 1100 _ _ _ _ _ _ _ _ _ _ h
def f240_69 : Nat → Nat → Int32 → Int32 → Int32 → Int32 → Int32 → xM → Option (Int32 × xM)
  | 0, _, _, _, _, _, _, _ => none
  | n + 1, l0, l1, l2, l3, l4, l5, σ =>
    if 36 ≤ l5 then
    f240_90 l0 l1 l2 l3 l4 σ
    else
    (gR σ l0 9 32).bind fun r1 =>
    (tI σ r1 l5 0).bind fun σ2 =>
    (f240_69 n) l0 l1 l2 l3 l4 (l5 + 1) σ2
set_option maxRecDepth 20000 in
set_option maxHeartbeats 1000000 in
theorem e240_69 (d : Nat) : ∀ (n : Nat) (l0 : Nat) (l1 : Int32) (l2 : Int32) (l3 : Int32) (l4 : Int32) (l5 : Int32) (x6 x7 : Value) (σ : xM) (y : Int32 × xM), f240_69 n l0 l1 l2 l3 l4 l5 σ = some y → Rn (d + 4) 240 69 [.ref l0, .int l1, .int l2, .int l3, .int l4, .int l5, x6, x7] [] σ (some (.int y.1), y.2) := by
  intro n
  induction n with
  | zero => intro l0 l1 l2 l3 l4 l5 x6 x7 σ y h; cases h
  | succ n ih =>
    intro l0 l1 l2 l3 l4 l5 x6 x7 σ y h
    unfold f240_69 at h
    refine rn_steps 2 73 [.ref l0, .int l1, .int l2, .int l3, .int l4, .int l5, x6, x7] [.int 36, .int l5] rfl ?_
    refine rn_br (c := 36 ≤ l5) rfl rfl decide_eq_true_iff (fun hb => ?_) (fun hb => ?_)
    · rw [if_pos hb] at h
      refine rn_steps 0 90 [.ref l0, .int l1, .int l2, .int l3, .int l4, .int l5, x6, x7] [] rfl ?_
      exact e240_90 d _ _ _ _ _ _ _ _ _ _ h
    · rw [if_neg hb] at h
      refine rn_steps 1 77 [.ref l0, .int l1, .int l2, .int l3, .int l4, .int l5, x6, x7] [.ref l0] rfl ?_
      obtain ⟨r1, hr1, h⟩ := Option.bind_eq_some_iff.mp h
      refine rn_gR (c := 9) (f := 32) rfl rfl ⟨⟨rfl, rfl⟩, rfl⟩ hr1 ?_
      refine rn_steps 2 83 [.ref l0, .int l1, .int l2, .int l3, .int l4, .int l5, x6, x7] [.int 0, .int l5, .ref r1] rfl ?_
      obtain ⟨σ2, hσ2, h⟩ := Option.bind_eq_some_iff.mp h
      refine rn_tI rfl hσ2 ?_
      refine rn_steps 2 69 [.ref l0, .int l1, .int l2, .int l3, .int l4, .int (l5 + 1), x6, x7] [] rfl ?_
      exact ih _ _ _ _ _ _ _ _ _ _ h
def f240_66 (l0 : Nat) (l1 : Int32) (l2 : Int32) (l3 : Int32) (l4 : Int32) (σ : xM) : Option (Int32 × xM) :=
  f240_69 1100 l0 l1 l2 l3 l4 0 σ
set_option maxRecDepth 20000 in
set_option maxHeartbeats 1000000 in
theorem e240_66 (d : Nat) (l0 : Nat) (l1 : Int32) (l2 : Int32) (l3 : Int32) (l4 : Int32) (x5 x6 x7 : Value) (σ : xM) (y : Int32 × xM) (h : f240_66 l0 l1 l2 l3 l4 σ = some y) : Rn (d + 4) 240 66 [.ref l0, .int l1, .int l2, .int l3, .int l4, x5, x6, x7] [] σ (some (.int y.1), y.2) := by
  unfold f240_66 at h
  refine rn_steps 2 69 [.ref l0, .int l1, .int l2, .int l3, .int l4, .int 0, x6, x7] [] rfl ?_
  exact e240_69 d 1100 _ _ _ _ _ _ _ _ _ _ h
def f240_45 : Nat → Nat → Int32 → Int32 → Int32 → Int32 → Int32 → xM → Option (Int32 × xM)
  | 0, _, _, _, _, _, _, _ => none
  | n + 1, l0, l1, l2, l3, l4, l5, σ =>
    if 21 ≤ l5 then
    f240_66 l0 l1 l2 l3 l4 σ
    else
    (gR σ l0 9 31).bind fun r1 =>
    (tI σ r1 l5 0).bind fun σ2 =>
    (f240_45 n) l0 l1 l2 l3 l4 (l5 + 1) σ2
set_option maxRecDepth 20000 in
set_option maxHeartbeats 1000000 in
theorem e240_45 (d : Nat) : ∀ (n : Nat) (l0 : Nat) (l1 : Int32) (l2 : Int32) (l3 : Int32) (l4 : Int32) (l5 : Int32) (x6 x7 : Value) (σ : xM) (y : Int32 × xM), f240_45 n l0 l1 l2 l3 l4 l5 σ = some y → Rn (d + 4) 240 45 [.ref l0, .int l1, .int l2, .int l3, .int l4, .int l5, x6, x7] [] σ (some (.int y.1), y.2) := by
  intro n
  induction n with
  | zero => intro l0 l1 l2 l3 l4 l5 x6 x7 σ y h; cases h
  | succ n ih =>
    intro l0 l1 l2 l3 l4 l5 x6 x7 σ y h
    unfold f240_45 at h
    refine rn_steps 2 49 [.ref l0, .int l1, .int l2, .int l3, .int l4, .int l5, x6, x7] [.int 21, .int l5] rfl ?_
    refine rn_br (c := 21 ≤ l5) rfl rfl decide_eq_true_iff (fun hb => ?_) (fun hb => ?_)
    · rw [if_pos hb] at h
      refine rn_steps 0 66 [.ref l0, .int l1, .int l2, .int l3, .int l4, .int l5, x6, x7] [] rfl ?_
      exact e240_66 d _ _ _ _ _ _ _ _ _ _ h
    · rw [if_neg hb] at h
      refine rn_steps 1 53 [.ref l0, .int l1, .int l2, .int l3, .int l4, .int l5, x6, x7] [.ref l0] rfl ?_
      obtain ⟨r1, hr1, h⟩ := Option.bind_eq_some_iff.mp h
      refine rn_gR (c := 9) (f := 31) rfl rfl ⟨⟨rfl, rfl⟩, rfl⟩ hr1 ?_
      refine rn_steps 2 59 [.ref l0, .int l1, .int l2, .int l3, .int l4, .int l5, x6, x7] [.int 0, .int l5, .ref r1] rfl ?_
      obtain ⟨σ2, hσ2, h⟩ := Option.bind_eq_some_iff.mp h
      refine rn_tI rfl hσ2 ?_
      refine rn_steps 2 45 [.ref l0, .int l1, .int l2, .int l3, .int l4, .int (l5 + 1), x6, x7] [] rfl ?_
      exact ih _ _ _ _ _ _ _ _ _ _ h
def f240_42 (l0 : Nat) (l1 : Int32) (l2 : Int32) (l3 : Int32) (l4 : Int32) (σ : xM) : Option (Int32 × xM) :=
  f240_45 1100 l0 l1 l2 l3 l4 0 σ
set_option maxRecDepth 20000 in
set_option maxHeartbeats 1000000 in
theorem e240_42 (d : Nat) (l0 : Nat) (l1 : Int32) (l2 : Int32) (l3 : Int32) (l4 : Int32) (x5 x6 x7 : Value) (σ : xM) (y : Int32 × xM) (h : f240_42 l0 l1 l2 l3 l4 σ = some y) : Rn (d + 4) 240 42 [.ref l0, .int l1, .int l2, .int l3, .int l4, x5, x6, x7] [] σ (some (.int y.1), y.2) := by
  unfold f240_42 at h
  refine rn_steps 2 45 [.ref l0, .int l1, .int l2, .int l3, .int l4, .int 0, x6, x7] [] rfl ?_
  exact e240_45 d 1100 _ _ _ _ _ _ _ _ _ _ h
def f240_13 : Nat → Nat → Int32 → Int32 → Int32 → Int32 → Int32 → xM → Option (Int32 × xM)
  | 0, _, _, _, _, _, _, _ => none
  | n + 1, l0, l1, l2, l3, l4, l5, σ =>
    (gR σ l0 9 3).bind fun r1 =>
    (gI σ r1 8 5).bind fun v2 =>
    if v2 ≤ l5 then
    f240_42 l0 l1 l2 l3 l4 σ
    else
    (cO σ l0 9).bind fun u4 =>
    (f238 l0 l5 σ).bind fun y3 =>
    (f240_13 n) l0 l1 l2 l3 (l4 * y3.1) (l5 + 1) y3.2
set_option maxRecDepth 20000 in
set_option maxHeartbeats 1000000 in
theorem e240_13 (d : Nat) : ∀ (n : Nat) (l0 : Nat) (l1 : Int32) (l2 : Int32) (l3 : Int32) (l4 : Int32) (l5 : Int32) (x6 x7 : Value) (σ : xM) (y : Int32 × xM), f240_13 n l0 l1 l2 l3 l4 l5 σ = some y → Rn (d + 4) 240 13 [.ref l0, .int l1, .int l2, .int l3, .int l4, .int l5, x6, x7] [] σ (some (.int y.1), y.2) := by
  intro n
  induction n with
  | zero => intro l0 l1 l2 l3 l4 l5 x6 x7 σ y h; cases h
  | succ n ih =>
    intro l0 l1 l2 l3 l4 l5 x6 x7 σ y h
    unfold f240_13 at h
    refine rn_steps 2 16 [.ref l0, .int l1, .int l2, .int l3, .int l4, .int l5, x6, x7] [.ref l0, .int l5] rfl ?_
    obtain ⟨r1, hr1, h⟩ := Option.bind_eq_some_iff.mp h
    refine rn_gR (c := 9) (f := 3) rfl rfl ⟨⟨rfl, rfl⟩, rfl⟩ hr1 ?_
    refine rn_steps 0 19 [.ref l0, .int l1, .int l2, .int l3, .int l4, .int l5, x6, x7] [.ref r1, .int l5] rfl ?_
    obtain ⟨v2, hv2, h⟩ := Option.bind_eq_some_iff.mp h
    refine rn_gI (c := 8) (f := 5) rfl rfl ⟨⟨rfl, rfl⟩, Or.inl rfl⟩ hv2 ?_
    refine rn_steps 0 22 [.ref l0, .int l1, .int l2, .int l3, .int l4, .int l5, x6, x7] [.int v2, .int l5] rfl ?_
    refine rn_br (c := v2 ≤ l5) rfl rfl decide_eq_true_iff (fun hb => ?_) (fun hb => ?_)
    · rw [if_pos hb] at h
      refine rn_steps 0 42 [.ref l0, .int l1, .int l2, .int l3, .int l4, .int l5, x6, x7] [] rfl ?_
      exact e240_42 d _ _ _ _ _ _ _ _ _ _ h
    · rw [if_neg hb] at h
      refine rn_steps 3 30 [.ref l0, .int l1, .int l2, .int l3, .int l4, .int l5, x6, x7] [.int l5, .ref l0, .int l4] rfl ?_
      obtain ⟨u4, hu4, h⟩ := Option.bind_eq_some_iff.mp h
      obtain ⟨y3, hy3, h⟩ := Option.bind_eq_some_iff.mp h
      refine rn_callV [.int l5] rfl rfl ⟨rfl, rfl⟩ hu4 rfl rfl (e238 (d + 2) hy3) ?_
      refine rn_steps 4 13 [.ref l0, .int l1, .int l2, .int l3, .int (l4 * y3.1), .int (l5 + 1), x6, x7] [] rfl ?_
      exact ih _ _ _ _ _ _ _ _ _ _ h
/-- LastAskedModel.fitting(II)Z -/
def f240 (l0 : Nat) (l1 : Int32) (l2 : Int32) (σ : xM) : Option (Int32 × xM) :=
  (pI σ l0 9 33 0).bind fun σ1 =>
  f240_13 1100 l0 l1 l2 0 1 0 σ1
set_option maxRecDepth 20000 in
set_option maxHeartbeats 1000000 in
theorem e240 (d : Nat) {l0 : Nat} {l1 : Int32} {l2 : Int32} {σ : xM} {y : Int32 × xM} (h : f240 l0 l1 l2 σ = some y) : Rn (d + 4) 240 0 [.ref l0, .int l1, .int l2, .retAddr 0, .retAddr 0, .retAddr 0, .retAddr 0, .retAddr 0] [] σ (some (.int y.1), y.2) := by
  unfold f240 at h
  refine rn_steps 6 7 [.ref l0, .int l1, .int l2, .int 0, .int 1, .retAddr 0, .retAddr 0, .retAddr 0] [.int 0, .ref l0] rfl ?_
  obtain ⟨σ1, hσ1, h⟩ := Option.bind_eq_some_iff.mp h
  refine rn_pI (c := 9) (f := 33) rfl rfl ⟨⟨rfl, rfl⟩, rfl⟩ hσ1 ?_
  refine rn_steps 2 13 [.ref l0, .int l1, .int l2, .int 0, .int 1, .int 0, .retAddr 0, .retAddr 0] [] rfl ?_
  exact e240_13 d 1100 _ _ _ _ _ _ _ _ _ _ h
