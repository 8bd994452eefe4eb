noncomputable def f232_37 (s0 : Int32) (σ : xM) : Option (Int32 × xM) :=
  some (s0, σ)
set_option maxRecDepth 20000 in
set_option maxHeartbeats 1000000 in
theorem e232_37 (d : Nat) (s0 : Int32) (x0 x1 x2 x3 : Value) (σ : xM) (y : Int32 × xM) (h : f232_37 s0 σ = some y) : Rn (d + 6) 232 37 [x0, x1, x2, x3] [.int s0] σ (some (.int y.1), y.2) := by
  unfold f232_37 at h
  cases h
  exact rn_ret rfl rfl rfl
/-- LastAskedModel.tour(II)I -/
noncomputable def f232 (l0 : Nat) (l1 : Int32) (l2 : Int32) (σ : xM) : Option (Int32 × xM) :=
  (pI σ l0 9 0 0).bind fun σ1 =>
  (cO σ1 l0 9).bind fun u9 =>
  (f226 l0 l1 l2 0 12 σ1).bind fun y2 =>
  if y2.1 ≤ 0 then
  (cO y2.2 l0 9).bind fun u6 =>
  (f231 l0 l1 l2 y2.2).bind fun y3 =>
  (cO y3.2 l0 9).bind fun u5 =>
  (f154 l0 y3.1 y3.2).bind fun y4 =>
  f232_37 y4.1 y4.2
  else
  (cO y2.2 l0 9).bind fun u8 =>
  (f151 l0 y2.1 y2.2).bind fun y7 =>
  f232_37 y7.1 y7.2
set_option maxRecDepth 20000 in
set_option maxHeartbeats 1000000 in
theorem e232 (d : Nat) {l0 : Nat} {l1 : Int32} {l2 : Int32} {σ : xM} {y : Int32 × xM} (h : f232 l0 l1 l2 σ = some y) : Rn (d + 6) 232 0 [.ref l0, .int l1, .int l2, .retAddr 0] [] σ (some (.int y.1), y.2) := by
  unfold f232 at h
  refine rn_steps 2 2 [.ref l0, .int l1, .int l2, .retAddr 0] [.int 0, .ref l0] rfl ?_
  obtain ⟨σ1, hσ1, h⟩ := Option.bind_eq_some_iff.mp h
  refine rn_pI (c := 9) (f := 0) rfl rfl ⟨⟨rfl, rfl⟩, rfl⟩ hσ1 ?_
  refine rn_steps 5 11 [.ref l0, .int l1, .int l2, .retAddr 0] [.int 12, .int 0, .int l2, .int l1, .ref l0] rfl ?_
  obtain ⟨u9, hu9, h⟩ := Option.bind_eq_some_iff.mp h
  obtain ⟨y2, hy2, h⟩ := Option.bind_eq_some_iff.mp h
  refine rn_callV [.int l1, .int l2, .int 0, .int 12] rfl rfl ⟨rfl, rfl⟩ hu9 rfl rfl (e226 (d + 4) hy2) ?_
  refine rn_steps 2 16 [.ref l0, .int l1, .int l2, .int y2.1] [.int y2.1] rfl ?_
  refine rn_br (c := y2.1 ≤ 0) rfl rfl decide_eq_true_iff (fun hb => ?_) (fun hb => ?_)
  · rw [if_pos hb] at h
    refine rn_steps 4 31 [.ref l0, .int l1, .int l2, .int y2.1] [.int l2, .int l1, .ref l0, .ref l0] rfl ?_
    obtain ⟨u6, hu6, h⟩ := Option.bind_eq_some_iff.mp h
    obtain ⟨y3, hy3, h⟩ := Option.bind_eq_some_iff.mp h
    refine rn_callV [.int l1, .int l2] rfl rfl ⟨rfl, rfl⟩ hu6 rfl rfl (e231 d hy3) ?_
    refine rn_steps 0 34 [.ref l0, .int l1, .int l2, .int y2.1] [.int y3.1, .ref l0] rfl ?_
    obtain ⟨u5, hu5, h⟩ := Option.bind_eq_some_iff.mp h
    obtain ⟨y4, hy4, h⟩ := Option.bind_eq_some_iff.mp h
    refine rn_callV [.int y3.1] rfl rfl ⟨rfl, rfl⟩ hu5 rfl rfl (e154 (d + 5) hy4) ?_
    refine rn_steps 0 37 [.ref l0, .int l1, .int l2, .int y2.1] [.int y4.1] rfl ?_
    exact e232_37 d _ _ _ _ _ _ _ h
  · rw [if_neg hb] at h
    refine rn_steps 2 21 [.ref l0, .int l1, .int l2, .int y2.1] [.int y2.1, .ref l0] rfl ?_
    obtain ⟨u8, hu8, h⟩ := Option.bind_eq_some_iff.mp h
    obtain ⟨y7, hy7, h⟩ := Option.bind_eq_some_iff.mp h
    refine rn_callV [.int y2.1] rfl rfl ⟨rfl, rfl⟩ hu8 rfl rfl (e151 (d + 5) hy7) ?_
    refine rn_steps 1 37 [.ref l0, .int l1, .int l2, .int y2.1] [.int y7.1] rfl ?_
    exact e232_37 d _ _ _ _ _ _ _ h
/-- LastAskedModel.tourHours(II)I -/
noncomputable def f233 (l0 : Nat) (l1 : Int32) (l2 : Int32) (σ : xM) : Option (Int32 × xM) :=
  (pI σ l0 9 0 0).bind fun σ1 =>
  (cO σ1 l0 9).bind fun u10 =>
  (f226 l0 l1 l2 0 12 σ1).bind fun y2 =>
  if y2.1 ≤ 0 then
  (cO y2.2 l0 9).bind fun u7 =>
  (f231 l0 l1 l2 y2.2).bind fun y3 =>
  (gI y3.2 l0 9 29).bind fun v4 =>
  (cO y3.2 l0 9).bind fun u6 =>
  (f154 l0 v4 y3.2).bind fun y5 =>
  some (y5.1, y5.2)
  else
  (cO y2.2 l0 9).bind fun u9 =>
  (f151 l0 y2.1 y2.2).bind fun y8 =>
  some (y8.1, y8.2)
set_option maxRecDepth 20000 in
set_option maxHeartbeats 1000000 in
theorem e233 (d : Nat) {l0 : Nat} {l1 : Int32} {l2 : Int32} {σ : xM} {y : Int32 × xM} (h : f233 l0 l1 l2 σ = some y) : Rn (d + 6) 233 0 [.ref l0, .int l1, .int l2, .retAddr 0] [] σ (some (.int y.1), y.2) := by
  unfold f233 at h
  refine rn_steps 2 2 [.ref l0, .int l1, .int l2, .retAddr 0] [.int 0, .ref l0] rfl ?_
  obtain ⟨σ1, hσ1, h⟩ := Option.bind_eq_some_iff.mp h
  refine rn_pI (c := 9) (f := 0) rfl rfl ⟨⟨rfl, rfl⟩, rfl⟩ hσ1 ?_
  refine rn_steps 5 11 [.ref l0, .int l1, .int l2, .retAddr 0] [.int 12, .int 0, .int l2, .int l1, .ref l0] rfl ?_
  obtain ⟨u10, hu10, h⟩ := Option.bind_eq_some_iff.mp h
  obtain ⟨y2, hy2, h⟩ := Option.bind_eq_some_iff.mp h
  refine rn_callV [.int l1, .int l2, .int 0, .int 12] rfl rfl ⟨rfl, rfl⟩ hu10 rfl rfl (e226 (d + 4) hy2) ?_
  refine rn_steps 2 16 [.ref l0, .int l1, .int l2, .int y2.1] [.int y2.1] rfl ?_
  refine rn_br (c := y2.1 ≤ 0) rfl rfl decide_eq_true_iff (fun hb => ?_) (fun hb => ?_)
  · rw [if_pos hb] at h
    refine rn_steps 3 28 [.ref l0, .int l1, .int l2, .int y2.1] [.int l2, .int l1, .ref l0] rfl ?_
    obtain ⟨u7, hu7, h⟩ := Option.bind_eq_some_iff.mp h
    obtain ⟨y3, hy3, h⟩ := Option.bind_eq_some_iff.mp h
    refine rn_callV [.int l1, .int l2] rfl rfl ⟨rfl, rfl⟩ hu7 rfl rfl (e231 d hy3) ?_
    refine rn_steps 3 34 [.ref l0, .int l1, .int l2, .int y2.1] [.ref l0, .ref l0] rfl ?_
    obtain ⟨v4, hv4, h⟩ := Option.bind_eq_some_iff.mp h
    refine rn_gI (c := 9) (f := 29) rfl rfl ⟨⟨rfl, rfl⟩, Or.inl rfl⟩ hv4 ?_
    refine rn_steps 0 37 [.ref l0, .int l1, .int l2, .int y2.1] [.int v4, .ref l0] rfl ?_
    obtain ⟨u6, hu6, h⟩ := Option.bind_eq_some_iff.mp h
    obtain ⟨y5, hy5, h⟩ := Option.bind_eq_some_iff.mp h
    refine rn_callV [.int v4] rfl rfl ⟨rfl, rfl⟩ hu6 rfl rfl (e154 (d + 5) hy5) ?_
    refine rn_steps 0 40 [.ref l0, .int l1, .int l2, .int y2.1] [.int y5.1] rfl ?_
    cases h
    exact rn_ret rfl rfl rfl
  · rw [if_neg hb] at h
    refine rn_steps 2 21 [.ref l0, .int l1, .int l2, .int y2.1] [.int y2.1, .ref l0] rfl ?_
    obtain ⟨u9, hu9, h⟩ := Option.bind_eq_some_iff.mp h
    obtain ⟨y8, hy8, h⟩ := Option.bind_eq_some_iff.mp h
    refine rn_callV [.int y2.1] rfl rfl ⟨rfl, rfl⟩ hu9 rfl rfl (e151 (d + 5) hy8) ?_
    refine rn_steps 0 24 [.ref l0, .int l1, .int l2, .int y2.1] [.int y8.1] rfl ?_
    cases h
    exact rn_ret rfl rfl rfl
noncomputable def f234_52 (s0 : Int32) (s1 : Nat) (σ : xM) : Option (Int32 × xM) :=
  (cO σ s1 9).bind fun u2 =>
  (f154 s1 s0 σ).bind fun y1 =>
  some (y1.1, y1.2)
set_option maxRecDepth 20000 in
set_option maxHeartbeats 1000000 in
theorem e234_52 (d : Nat) (s0 : Int32) (s1 : Nat) (x0 x1 x2 x3 : Value) (σ : xM) (y : Int32 × xM) (h : f234_52 s0 s1 σ = some y) : Rn (d + 3) 234 52 [x0, x1, x2, x3] [.int s0, .ref s1] σ (some (.int y.1), y.2) := by
  unfold f234_52 at h
  obtain ⟨u2, hu2, h⟩ := Option.bind_eq_some_iff.mp h
  obtain ⟨y1, hy1, h⟩ := Option.bind_eq_some_iff.mp h
  refine rn_callV [.int s0] rfl rfl ⟨rfl, rfl⟩ hu2 rfl rfl (e154 (d + 2) hy1) ?_
  refine rn_steps 0 55 [x0, x1, x2, x3] [.int y1.1] rfl ?_
  cases h
  exact rn_ret rfl rfl rfl
noncomputable def f234_21 (l0 : Nat) (σ : xM) : Option (Int32 × xM) :=
  (cO σ l0 9).bind fun u2 =>
  (f151 l0 1 σ).bind fun y1 =>
  some (y1.1, y1.2)
set_option maxRecDepth 20000 in
set_option maxHeartbeats 1000000 in
theorem e234_21 (d : Nat) (l0 : Nat) (x1 x2 x3 : Value) (σ : xM) (y : Int32 × xM) (h : f234_21 l0 σ = some y) : Rn (d + 3) 234 21 [.ref l0, x1, x2, x3] [] σ (some (.int y.1), y.2) := by
  unfold f234_21 at h
  refine rn_steps 2 23 [.ref l0, x1, x2, x3] [.int 1, .ref l0] rfl ?_
  obtain ⟨u2, hu2, h⟩ := Option.bind_eq_some_iff.mp h
  obtain ⟨y1, hy1, h⟩ := Option.bind_eq_some_iff.mp h
  refine rn_callV [.int 1] rfl rfl ⟨rfl, rfl⟩ hu2 rfl rfl (e151 (d + 2) hy1) ?_
  refine rn_steps 0 26 [.ref l0, x1, x2, x3] [.int y1.1] rfl ?_
  cases h
  exact rn_ret rfl rfl rfl
/-- LastAskedModel.apart(II)I -/
noncomputable def f234 (l0 : Nat) (l1 : Int32) (l2 : Int32) (σ : xM) : Option (Int32 × xM) :=
  (pI σ l0 9 0 0).bind fun σ1 =>
  (cO σ1 l0 9).bind fun u7 =>
  (f186 l0 l1 σ1).bind fun y2 =>
  if y2.1 = 0 then
  f234_21 l0 y2.2
  else
  (cO y2.2 l0 9).bind fun u6 =>
  (f186 l0 l2 y2.2).bind fun y3 =>
  if y3.1 = 0 then
  f234_21 l0 y3.2
  else
  (cO y3.2 l0 9).bind fun u5 =>
  (f229 l0 l1 (1 <<< (l2 &&& 31)) 6 y3.2).bind fun y4 =>
  if y4.1 = 9999 then
  f234_52 (-2) l0 y4.2
  else
  f234_52 y4.1 l0 y4.2
set_option maxRecDepth 20000 in
set_option maxHeartbeats 1000000 in
theorem e234 (d : Nat) {l0 : Nat} {l1 : Int32} {l2 : Int32} {σ : xM} {y : Int32 × xM} (h : f234 l0 l1 l2 σ = some y) : Rn (d + 3) 234 0 [.ref l0, .int l1, .int l2, .retAddr 0] [] σ (some (.int y.1), y.2) := by
  unfold f234 at h
  refine rn_steps 2 2 [.ref l0, .int l1, .int l2, .retAddr 0] [.int 0, .ref l0] rfl ?_
  obtain ⟨σ1, hσ1, h⟩ := Option.bind_eq_some_iff.mp h
  refine rn_pI (c := 9) (f := 0) rfl rfl ⟨⟨rfl, rfl⟩, rfl⟩ hσ1 ?_
  refine rn_steps 2 7 [.ref l0, .int l1, .int l2, .retAddr 0] [.int l1, .ref l0] rfl ?_
  obtain ⟨u7, hu7, h⟩ := Option.bind_eq_some_iff.mp h
  obtain ⟨y2, hy2, h⟩ := Option.bind_eq_some_iff.mp h
  refine rn_callV [.int l1] rfl rfl ⟨rfl, rfl⟩ hu7 rfl rfl (e186 (d + 2) hy2) ?_
  refine rn_steps 0 10 [.ref l0, .int l1, .int l2, .retAddr 0] [.int y2.1] rfl ?_
  refine rn_br (c := y2.1 = 0) rfl rfl decide_eq_true_iff (fun hb => ?_) (fun hb => ?_)
  · rw [if_pos hb] at h
    refine rn_steps 0 21 [.ref l0, .int l1, .int l2, .retAddr 0] [] rfl ?_
    exact e234_21 d _ _ _ _ _ _ h
  · rw [if_neg hb] at h
    refine rn_steps 2 15 [.ref l0, .int l1, .int l2, .retAddr 0] [.int l2, .ref l0] rfl ?_
    obtain ⟨u6, hu6, h⟩ := Option.bind_eq_some_iff.mp h
    obtain ⟨y3, hy3, h⟩ := Option.bind_eq_some_iff.mp h
    refine rn_callV [.int l2] rfl rfl ⟨rfl, rfl⟩ hu6 rfl rfl (e186 (d + 2) hy3) ?_
    refine rn_steps 0 18 [.ref l0, .int l1, .int l2, .retAddr 0] [.int y3.1] rfl ?_
    refine rn_br (c := ¬ y3.1 = 0) rfl rfl decide_eq_true_iff (fun hb => ?_) (fun hb => ?_)
    · rw [if_neg hb] at h
      refine rn_steps 6 34 [.ref l0, .int l1, .int l2, .retAddr 0] [.int 6, .int (1 <<< (l2 &&& 31)), .int l1, .ref l0] rfl ?_
      obtain ⟨u5, hu5, h⟩ := Option.bind_eq_some_iff.mp h
      obtain ⟨y4, hy4, h⟩ := Option.bind_eq_some_iff.mp h
      refine rn_callV [.int l1, .int (1 <<< (l2 &&& 31)), .int 6] rfl rfl ⟨rfl, rfl⟩ hu5 rfl rfl (e229 d hy4) ?_
      refine rn_steps 4 43 [.ref l0, .int l1, .int l2, .int y4.1] [.int 9999, .int y4.1, .ref l0] rfl ?_
      refine rn_br (c := ¬ y4.1 = 9999) rfl rfl decide_eq_true_iff (fun hb => ?_) (fun hb => ?_)
      · rw [if_neg hb] at h
        refine rn_steps 1 52 [.ref l0, .int l1, .int l2, .int y4.1] [.int y4.1, .ref l0] rfl ?_
        exact e234_52 d _ _ _ _ _ _ _ _ h
      · rw [if_pos (Decidable.not_not.mp hb)] at h
        refine rn_steps 2 52 [.ref l0, .int l1, .int l2, .int y4.1] [.int (-2), .ref l0] rfl ?_
        exact e234_52 d _ _ _ _ _ _ _ _ h
    · rw [if_pos (Decidable.not_not.mp hb)] at h
      refine rn_steps 0 21 [.ref l0, .int l1, .int l2, .retAddr 0] [] rfl ?_
      exact e234_21 d _ _ _ _ _ _ h
