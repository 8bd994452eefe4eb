noncomputable def f221_119 (l0 : Nat) (l3 : Int32) (l4 : Int64) (σ : xM) : Option (Int64 × xM) :=
  (gJ σ l0 9 25).bind fun v1 =>
  (cO σ l0 9).bind fun u3 =>
  (f160 l0 l4 v1 l3 σ).bind fun y2 =>
  some (y2.1, y2.2)
set_option maxRecDepth 20000 in
set_option maxHeartbeats 1000000 in
theorem e221_119 (d : Nat) (l0 : Nat) (l3 : Int32) (l4 : Int64) (x1 x2 x6 : Value) (σ : xM) (y : Int64 × xM) (h : f221_119 l0 l3 l4 σ = some y) : Rn (d + 5) 221 119 [.ref l0, x1, x2, .int l3, .long l4, .retAddr 1, x6] [] σ (some (.long y.1), y.2) := by
  unfold f221_119 at h
  refine rn_steps 3 123 [.ref l0, x1, x2, .int l3, .long l4, .retAddr 1, x6] [.ref l0, .long l4, .ref l0] rfl ?_
  obtain ⟨v1, hv1, h⟩ := Option.bind_eq_some_iff.mp h
  refine rn_gJ (c := 9) (f := 25) rfl rfl ⟨⟨rfl, rfl⟩, rfl⟩ hv1 ?_
  refine rn_steps 1 127 [.ref l0, x1, x2, .int l3, .long l4, .retAddr 1, x6] [.int l3, .long v1, .long l4, .ref l0] rfl ?_
  obtain ⟨u3, hu3, h⟩ := Option.bind_eq_some_iff.mp h
  obtain ⟨y2, hy2, h⟩ := Option.bind_eq_some_iff.mp h
  refine rn_callV [.long l4, .long v1, .int l3] rfl rfl ⟨rfl, rfl⟩ hu3 rfl rfl (e160 (d + 3) hy2) ?_
  refine rn_steps 0 130 [.ref l0, x1, x2, .int l3, .long l4, .retAddr 1, x6] [.long y2.1] rfl ?_
  cases h
  exact rn_ret rfl rfl rfl
noncomputable def f221_113 (K52 : Nat → Int32 → Int32 → Int32 → Int64 → Int32 → xM → Option (Int64 × xM)) (l0 : Nat) (l1 : Int32) (l2 : Int32) (l3 : Int32) (l4 : Int64) (l6 : Int32) (σ : xM) : Option (Int64 × xM) :=
  K52 l0 l1 l2 l3 l4 (l6 + 1) σ
set_option maxRecDepth 20000 in
set_option maxHeartbeats 1000000 in
theorem e221_113 (d : Nat) (K52 : Nat → Int32 → Int32 → Int32 → Int64 → Int32 → xM → Option (Int64 × xM)) (hK52 : ∀ (l0 : Nat) (l1 : Int32) (l2 : Int32) (l3 : Int32) (l4 : Int64) (l6 : Int32) (σ : xM) (y : Int64 × xM), K52 l0 l1 l2 l3 l4 l6 σ = some y → Rn (d + 5) 221 52 [.ref l0, .int l1, .int l2, .int l3, .long l4, .retAddr 1, .int l6] [] σ (some (.long y.1), y.2)) (l0 : Nat) (l1 : Int32) (l2 : Int32) (l3 : Int32) (l4 : Int64) (l6 : Int32) (σ : xM) (y : Int64 × xM) (h : f221_113 K52 l0 l1 l2 l3 l4 l6 σ = some y) : Rn (d + 5) 221 113 [.ref l0, .int l1, .int l2, .int l3, .long l4, .retAddr 1, .int l6] [] σ (some (.long y.1), y.2) := by
  unfold f221_113 at h
  refine rn_steps 2 52 [.ref l0, .int l1, .int l2, .int l3, .long l4, .retAddr 1, .int (l6 + 1)] [] rfl ?_
  exact hK52 _ _ _ _ _ _ _ _ h
noncomputable def f221_110 (K52 : Nat → Int32 → Int32 → Int32 → Int64 → Int32 → xM → Option (Int64 × xM)) (l0 : Nat) (l1 : Int32) (l2 : Int32) (l3 : Int32) (l6 : Int32) (s0 : Int64) (s1 : Int64) (σ : xM) : Option (Int64 × xM) :=
  f221_113 K52 l0 l1 l2 l3 (s1 + s0) l6 σ
set_option maxRecDepth 20000 in
set_option maxHeartbeats 1000000 in
theorem e221_110 (d : Nat) (K52 : Nat → Int32 → Int32 → Int32 → Int64 → Int32 → xM → Option (Int64 × xM)) (hK52 : ∀ (l0 : Nat) (l1 : Int32) (l2 : Int32) (l3 : Int32) (l4 : Int64) (l6 : Int32) (σ : xM) (y : Int64 × xM), K52 l0 l1 l2 l3 l4 l6 σ = some y → Rn (d + 5) 221 52 [.ref l0, .int l1, .int l2, .int l3, .long l4, .retAddr 1, .int l6] [] σ (some (.long y.1), y.2)) (l0 : Nat) (l1 : Int32) (l2 : Int32) (l3 : Int32) (l6 : Int32) (s0 : Int64) (s1 : Int64) (x4 x5 : Value) (σ : xM) (y : Int64 × xM) (h : f221_110 K52 l0 l1 l2 l3 l6 s0 s1 σ = some y) : Rn (d + 5) 221 110 [.ref l0, .int l1, .int l2, .int l3, x4, x5, .int l6] [.long s0, .long s1] σ (some (.long y.1), y.2) := by
  unfold f221_110 at h
  refine rn_steps 2 113 [.ref l0, .int l1, .int l2, .int l3, .long (s1 + s0), .retAddr 1, .int l6] [] rfl ?_
  exact e221_113 d _ hK52 _ _ _ _ _ _ _ _ h
noncomputable def f221_52 : Nat → Nat → Int32 → Int32 → Int32 → Int64 → Int32 → xM → Option (Int64 × xM)
  | 0, _, _, _, _, _, _, _ => none
  | n + 1, l0, l1, l2, l3, l4, l6, σ =>
    (gR σ l0 9 17).bind fun r1 =>
    (aI σ r1 42).bind fun v2 =>
    if v2 < l6 then
    f221_119 l0 l3 l4 σ
    else
    (gR σ l0 9 17).bind fun r3 =>
    (aI σ r3 42).bind fun v4 =>
    if (l6 &&& (v4 ^^^ (-1))) = 0 then
    (cO σ l0 9).bind fun u10 =>
    (f195 l0 l6 σ).bind fun y5 =>
    (gR y5 l0 9 23).bind fun r6 =>
    (aI y5 r6 l1).bind fun v7 =>
    if v7 < l2 then
    f221_110 (f221_52 n) l0 l1 l2 l3 l6 0 l4 y5
    else
    (cO y5 l0 9).bind fun u9 =>
    (f217 l0 l6 y5).bind fun y8 =>
    f221_110 (f221_52 n) l0 l1 l2 l3 l6 y8.1 l4 y8.2
    else
    f221_113 (f221_52 n) l0 l1 l2 l3 l4 l6 σ
set_option maxRecDepth 20000 in
set_option maxHeartbeats 1000000 in
theorem e221_52 (d : Nat) : ∀ (n : Nat) (l0 : Nat) (l1 : Int32) (l2 : Int32) (l3 : Int32) (l4 : Int64) (l6 : Int32) (σ : xM) (y : Int64 × xM), f221_52 n l0 l1 l2 l3 l4 l6 σ = some y → Rn (d + 5) 221 52 [.ref l0, .int l1, .int l2, .int l3, .long l4, .retAddr 1, .int l6] [] σ (some (.long y.1), y.2) := by
  intro n
  induction n with
  | zero => intro l0 l1 l2 l3 l4 l6 σ y h; cases h
  | succ n ih =>
    intro l0 l1 l2 l3 l4 l6 σ y h
    unfold f221_52 at h
    refine rn_steps 2 55 [.ref l0, .int l1, .int l2, .int l3, .long l4, .retAddr 1, .int l6] [.ref l0, .int l6] rfl ?_
    obtain ⟨r1, hr1, h⟩ := Option.bind_eq_some_iff.mp h
    refine rn_gR (c := 9) (f := 17) rfl rfl ⟨⟨rfl, rfl⟩, rfl⟩ hr1 ?_
    refine rn_steps 1 60 [.ref l0, .int l1, .int l2, .int l3, .long l4, .retAddr 1, .int l6] [.int 42, .ref r1, .int l6] rfl ?_
    obtain ⟨v2, hv2, h⟩ := Option.bind_eq_some_iff.mp h
    refine rn_aI rfl hv2 ?_
    refine rn_steps 0 61 [.ref l0, .int l1, .int l2, .int l3, .long l4, .retAddr 1, .int l6] [.int v2, .int l6] rfl ?_
    refine rn_br (c := v2 < l6) rfl rfl decide_eq_true_iff (fun hb => ?_) (fun hb => ?_)
    · rw [if_pos hb] at h
      refine rn_steps 0 119 [.ref l0, .int l1, .int l2, .int l3, .long l4, .retAddr 1, .int l6] [] rfl ?_
      exact e221_119 d _ _ _ _ _ _ _ _ h
    · rw [if_neg hb] at h
      refine rn_steps 2 67 [.ref l0, .int l1, .int l2, .int l3, .long l4, .retAddr 1, .int l6] [.ref l0, .int l6] rfl ?_
      obtain ⟨r3, hr3, h⟩ := Option.bind_eq_some_iff.mp h
      refine rn_gR (c := 9) (f := 17) rfl rfl ⟨⟨rfl, rfl⟩, rfl⟩ hr3 ?_
      refine rn_steps 1 72 [.ref l0, .int l1, .int l2, .int l3, .long l4, .retAddr 1, .int l6] [.int 42, .ref r3, .int l6] rfl ?_
      obtain ⟨v4, hv4, h⟩ := Option.bind_eq_some_iff.mp h
      refine rn_aI rfl hv4 ?_
      refine rn_steps 3 76 [.ref l0, .int l1, .int l2, .int l3, .long l4, .retAddr 1, .int l6] [.int (l6 &&& (v4 ^^^ (-1)))] rfl ?_
      refine rn_br (c := (l6 &&& (v4 ^^^ (-1))) = 0) rfl rfl decide_eq_true_iff (fun hb => ?_) (fun hb => ?_)
      · rw [if_pos hb] at h
        refine rn_steps 2 85 [.ref l0, .int l1, .int l2, .int l3, .long l4, .retAddr 1, .int l6] [.int l6, .ref l0] rfl ?_
        obtain ⟨u10, hu10, h⟩ := Option.bind_eq_some_iff.mp h
        obtain ⟨y5, hy5, h⟩ := Option.bind_eq_some_iff.mp h
        refine rn_callV [.int l6] rfl rfl ⟨rfl, rfl⟩ hu10 rfl rfl (e195 (d + 2) hy5) ?_
        refine rn_steps 2 91 [.ref l0, .int l1, .int l2, .int l3, .long l4, .retAddr 1, .int l6] [.ref l0, .long l4] rfl ?_
        obtain ⟨r6, hr6, h⟩ := Option.bind_eq_some_iff.mp h
        refine rn_gR (c := 9) (f := 23) rfl rfl ⟨⟨rfl, rfl⟩, rfl⟩ hr6 ?_
        refine rn_steps 1 95 [.ref l0, .int l1, .int l2, .int l3, .long l4, .retAddr 1, .int l6] [.int l1, .ref r6, .long l4] rfl ?_
        obtain ⟨v7, hv7, h⟩ := Option.bind_eq_some_iff.mp h
        refine rn_aI rfl hv7 ?_
        refine rn_steps 1 97 [.ref l0, .int l1, .int l2, .int l3, .long l4, .retAddr 1, .int l6] [.int l2, .int v7, .long l4] rfl ?_
        refine rn_br (c := v7 < l2) rfl rfl decide_eq_true_iff (fun hb => ?_) (fun hb => ?_)
        · rw [if_pos hb] at h
          refine rn_steps 1 110 [.ref l0, .int l1, .int l2, .int l3, .long l4, .retAddr 1, .int l6] [.long 0, .long l4] rfl ?_
          exact e221_110 d _ ih _ _ _ _ _ _ _ _ _ _ _ h
        · rw [if_neg hb] at h
          refine rn_steps 2 103 [.ref l0, .int l1, .int l2, .int l3, .long l4, .retAddr 1, .int l6] [.int l6, .ref l0, .long l4] rfl ?_
          obtain ⟨u9, hu9, h⟩ := Option.bind_eq_some_iff.mp h
          obtain ⟨y8, hy8, h⟩ := Option.bind_eq_some_iff.mp h
          refine rn_callV [.int l6] rfl rfl ⟨rfl, rfl⟩ hu9 rfl rfl (e217 (d + 2) hy8) ?_
          refine rn_steps 1 110 [.ref l0, .int l1, .int l2, .int l3, .long l4, .retAddr 1, .int l6] [.long y8.1, .long l4] rfl ?_
          exact e221_110 d _ ih _ _ _ _ _ _ _ _ _ _ _ h
      · rw [if_neg hb] at h
        refine rn_steps 1 113 [.ref l0, .int l1, .int l2, .int l3, .long l4, .retAddr 1, .int l6] [] rfl ?_
        exact e221_113 d _ ih _ _ _ _ _ _ _ _ h
/-- LastAskedModel.odds(IIZ)J -/
noncomputable def f221 (l0 : Nat) (l1 : Int32) (l2 : Int32) (l3 : Int32) (σ : xM) : Option (Int64 × xM) :=
  (pI σ l0 9 0 0).bind fun σ1 =>
  (cO σ1 l0 9).bind fun u12 =>
  (f186 l0 l1 σ1).bind fun y2 =>
  if y2.1 = 0 then
  (cO y2.2 l0 9).bind fun u11 =>
  (f151 l0 1 y2.2).bind fun y10 =>
  some (y10.1.toInt64, y10.2)
  else
  (f156 l2 0 594 y2.2).bind fun y3 =>
  if y3.1 = 0 then
  (cO y3.2 l0 9).bind fun u9 =>
  (f151 l0 2 y3.2).bind fun y8 =>
  some (y8.1.toInt64, y8.2)
  else
  (cO y3.2 l0 9).bind fun u7 =>
  (f197 l0 y3.2).bind fun y4 =>
  (cO y4 l0 9).bind fun u6 =>
  (f218 l0 y4).bind fun y5 =>
  f221_52 1100 l0 l1 l2 l3 0 0 y5
set_option maxRecDepth 20000 in
set_option maxHeartbeats 1000000 in
theorem e221 (d : Nat) {l0 : Nat} {l1 : Int32} {l2 : Int32} {l3 : Int32} {σ : xM} {y : Int64 × xM} (h : f221 l0 l1 l2 l3 σ = some y) : Rn (d + 5) 221 0 [.ref l0, .int l1, .int l2, .int l3, .retAddr 0, .retAddr 0, .retAddr 0] [] σ (some (.long y.1), y.2) := by
  unfold f221 at h
  refine rn_steps 2 2 [.ref l0, .int l1, .int l2, .int l3, .retAddr 0, .retAddr 0, .retAddr 0] [.int 0, .ref l0] rfl ?_
  obtain ⟨σ1, hσ1, h⟩ := Option.bind_eq_some_iff.mp h
  refine rn_pI (c := 9) (f := 0) rfl rfl ⟨⟨rfl, rfl⟩, rfl⟩ hσ1 ?_
  refine rn_steps 2 7 [.ref l0, .int l1, .int l2, .int l3, .retAddr 0, .retAddr 0, .retAddr 0] [.int l1, .ref l0] rfl ?_
  obtain ⟨u12, hu12, h⟩ := Option.bind_eq_some_iff.mp h
  obtain ⟨y2, hy2, h⟩ := Option.bind_eq_some_iff.mp h
  refine rn_callV [.int l1] rfl rfl ⟨rfl, rfl⟩ hu12 rfl rfl (e186 (d + 4) hy2) ?_
  refine rn_steps 0 10 [.ref l0, .int l1, .int l2, .int l3, .retAddr 0, .retAddr 0, .retAddr 0] [.int y2.1] rfl ?_
  refine rn_br (c := ¬ y2.1 = 0) rfl rfl decide_eq_true_iff (fun hb => ?_) (fun hb => ?_)
  · rw [if_neg hb] at h
    refine rn_steps 3 25 [.ref l0, .int l1, .int l2, .int l3, .retAddr 0, .retAddr 0, .retAddr 0] [.int 594, .int 0, .int l2] rfl ?_
    obtain ⟨y3, hy3, h⟩ := Option.bind_eq_some_iff.mp h
    refine rn_callS [.int l2, .int 0, .int 594] rfl rfl rfl ⟨rfl, rfl, rfl⟩ rfl rfl (e156 (d + 4) hy3) ?_
    refine rn_steps 0 28 [.ref l0, .int l1, .int l2, .int l3, .retAddr 0, .retAddr 0, .retAddr 0] [.int y3.1] rfl ?_
    refine rn_br (c := ¬ y3.1 = 0) rfl rfl decide_eq_true_iff (fun hb => ?_) (fun hb => ?_)
    · rw [if_neg hb] at h
      refine rn_steps 1 39 [.ref l0, .int l1, .int l2, .int l3, .retAddr 0, .retAddr 0, .retAddr 0] [.ref l0] rfl ?_
      obtain ⟨u7, hu7, h⟩ := Option.bind_eq_some_iff.mp h
      obtain ⟨y4, hy4, h⟩ := Option.bind_eq_some_iff.mp h
      refine rn_callV [] rfl rfl ⟨rfl, rfl⟩ hu7 rfl rfl (e197 d hy4) ?_
      refine rn_steps 1 43 [.ref l0, .int l1, .int l2, .int l3, .retAddr 0, .retAddr 0, .retAddr 0] [.ref l0] rfl ?_
      obtain ⟨u6, hu6, h⟩ := Option.bind_eq_some_iff.mp h
      obtain ⟨y5, hy5, h⟩ := Option.bind_eq_some_iff.mp h
      refine rn_callV [] rfl rfl ⟨rfl, rfl⟩ hu6 rfl rfl (e218 (d + 2) hy5) ?_
      refine rn_steps 4 52 [.ref l0, .int l1, .int l2, .int l3, .long 0, .retAddr 1, .int 0] [] rfl ?_
      exact e221_52 d 1100 _ _ _ _ _ _ _ _ h
    · rw [if_pos (Decidable.not_not.mp hb)] at h
      refine rn_steps 2 33 [.ref l0, .int l1, .int l2, .int l3, .retAddr 0, .retAddr 0, .retAddr 0] [.int 2, .ref l0] rfl ?_
      obtain ⟨u9, hu9, h⟩ := Option.bind_eq_some_iff.mp h
      obtain ⟨y8, hy8, h⟩ := Option.bind_eq_some_iff.mp h
      refine rn_callV [.int 2] rfl rfl ⟨rfl, rfl⟩ hu9 rfl rfl (e151 (d + 4) hy8) ?_
      refine rn_steps 1 37 [.ref l0, .int l1, .int l2, .int l3, .retAddr 0, .retAddr 0, .retAddr 0] [.long y8.1.toInt64] rfl ?_
      cases h
      exact rn_ret rfl rfl rfl
  · rw [if_pos (Decidable.not_not.mp hb)] at h
    refine rn_steps 2 15 [.ref l0, .int l1, .int l2, .int l3, .retAddr 0, .retAddr 0, .retAddr 0] [.int 1, .ref l0] rfl ?_
    obtain ⟨u11, hu11, h⟩ := Option.bind_eq_some_iff.mp h
    obtain ⟨y10, hy10, h⟩ := Option.bind_eq_some_iff.mp h
    refine rn_callV [.int 1] rfl rfl ⟨rfl, rfl⟩ hu11 rfl rfl (e151 (d + 4) hy10) ?_
    refine rn_steps 1 19 [.ref l0, .int l1, .int l2, .int l3, .retAddr 0, .retAddr 0, .retAddr 0] [.long y10.1.toInt64] rfl ?_
    cases h
    exact rn_ret rfl rfl rfl
