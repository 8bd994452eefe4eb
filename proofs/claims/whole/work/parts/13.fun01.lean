noncomputable def f41_69 (l0 : Nat) (σ : xM) : Option (Int32 × xM) :=
  (cO σ l0 3).bind fun u2 =>
  (f25 l0 3 σ).bind fun y1 =>
  some ((-1), y1.2)
set_option maxRecDepth 20000 in
set_option maxHeartbeats 1000000 in
theorem e41_69 (d : Nat) (l0 : Nat) (x1 x2 : Value) (σ : xM) (y : Int32 × xM) (h : f41_69 l0 σ = some y) : Rn (d + 3) 41 69 [.ref l0, x1, x2] [] σ (some (.int y.1), y.2) := by
  unfold f41_69 at h
  refine rn_steps 2 71 [.ref l0, x1, x2] [.int 3, .ref l0] rfl ?_
  obtain ⟨u2, hu2, h⟩ := Option.bind_eq_some_iff.mp h
  obtain ⟨y1, hy1, h⟩ := Option.bind_eq_some_iff.mp h
  refine rn_callV [.int 3] rfl rfl ⟨rfl, rfl⟩ hu2 rfl rfl (e25 (d + 2) hy1) ?_
  refine rn_steps 2 76 [.ref l0, x1, x2] [.int (-1)] rfl ?_
  cases h
  exact rn_ret rfl rfl rfl
/-- LastAsked$Reader.takePair()I -/
noncomputable def f41 (l0 : Nat) (σ : xM) : Option (Int32 × xM) :=
  (cO σ l0 3).bind fun u19 =>
  (f35 l0 σ).bind fun y1 =>
  if y1.1 = (-1) then
  some ((-1), y1.2)
  else
  (gR y1.2 l0 3 2).bind fun r2 =>
  (gR y1.2 r2 0 7).bind fun r3 =>
  (aI y1.2 r3 y1.1).bind fun v4 =>
  if v4 = 3 then
  (cO y1.2 l0 3).bind fun u18 =>
  (f25 l0 7 y1.2).bind fun y17 =>
  some ((-1), y17.2)
  else
  (cO y1.2 l0 3).bind fun u16 =>
  (f35 l0 y1.2).bind fun y5 =>
  if y5.1 = (-1) then
  some ((-1), y5.2)
  else
  if y5.1 = y1.1 then
  f41_69 l0 y5.2
  else
  (gR y5.2 l0 3 2).bind fun r6 =>
  (gR y5.2 r6 0 12).bind fun r7 =>
  (f125 y1.1 y5.1 y5.2).bind fun y8 =>
  (aI y8.2 r7 y8.1).bind fun v9 =>
  if v9 = (-2) then
  (gR y8.2 l0 3 2).bind fun r10 =>
  (cO y8.2 r10 0).bind fun u15 =>
  (f4 r10 y1.1 y5.1 y8.2).bind fun y11 =>
  if y11.1 = 0 then
  (cO y11.2 l0 3).bind fun u14 =>
  (f25 l0 7 y11.2).bind fun y13 =>
  some ((-1), y13.2)
  else
  (f125 y1.1 y5.1 y11.2).bind fun y12 =>
  some (y12.1, y12.2)
  else
  f41_69 l0 y8.2
set_option maxRecDepth 20000 in
set_option maxHeartbeats 1000000 in
theorem e41 (d : Nat) {l0 : Nat} {σ : xM} {y : Int32 × xM} (h : f41 l0 σ = some y) : Rn (d + 3) 41 0 [.ref l0, .retAddr 0, .retAddr 0] [] σ (some (.int y.1), y.2) := by
  unfold f41 at h
  refine rn_steps 1 1 [.ref l0, .retAddr 0, .retAddr 0] [.ref l0] rfl ?_
  obtain ⟨u19, hu19, h⟩ := Option.bind_eq_some_iff.mp h
  obtain ⟨y1, hy1, h⟩ := Option.bind_eq_some_iff.mp h
  refine rn_callV [] rfl rfl ⟨rfl, rfl⟩ hu19 rfl rfl (e35 d hy1) ?_
  refine rn_steps 3 7 [.ref l0, .int y1.1, .retAddr 0] [.int (-1), .int y1.1] rfl ?_
  refine rn_br (c := ¬ y1.1 = (-1)) rfl rfl decide_eq_true_iff (fun hb => ?_) (fun hb => ?_)
  · rw [if_neg hb] at h
    refine rn_steps 1 13 [.ref l0, .int y1.1, .retAddr 0] [.ref l0] rfl ?_
    obtain ⟨r2, hr2, h⟩ := Option.bind_eq_some_iff.mp h
    refine rn_gR (c := 3) (f := 2) rfl rfl ⟨⟨rfl, rfl⟩, rfl⟩ hr2 ?_
    refine rn_steps 0 16 [.ref l0, .int y1.1, .retAddr 0] [.ref r2] rfl ?_
    obtain ⟨r3, hr3, h⟩ := Option.bind_eq_some_iff.mp h
    refine rn_gR (c := 0) (f := 7) rfl rfl ⟨⟨rfl, rfl⟩, rfl⟩ hr3 ?_
    refine rn_steps 1 20 [.ref l0, .int y1.1, .retAddr 0] [.int y1.1, .ref r3] rfl ?_
    obtain ⟨v4, hv4, h⟩ := Option.bind_eq_some_iff.mp h
    refine rn_aI rfl hv4 ?_
    refine rn_steps 1 22 [.ref l0, .int y1.1, .retAddr 0] [.int 3, .int v4] rfl ?_
    refine rn_br (c := ¬ v4 = 3) rfl rfl decide_eq_true_iff (fun hb => ?_) (fun hb => ?_)
    · rw [if_neg hb] at h
      refine rn_steps 1 35 [.ref l0, .int y1.1, .retAddr 0] [.ref l0] rfl ?_
      obtain ⟨u16, hu16, h⟩ := Option.bind_eq_some_iff.mp h
      obtain ⟨y5, hy5, h⟩ := Option.bind_eq_some_iff.mp h
      refine rn_callV [] rfl rfl ⟨rfl, rfl⟩ hu16 rfl rfl (e35 d hy5) ?_
      refine rn_steps 3 41 [.ref l0, .int y1.1, .int y5.1] [.int (-1), .int y5.1] rfl ?_
      refine rn_br (c := ¬ y5.1 = (-1)) rfl rfl decide_eq_true_iff (fun hb => ?_) (fun hb => ?_)
      · rw [if_neg hb] at h
        refine rn_steps 2 48 [.ref l0, .int y1.1, .int y5.1] [.int y1.1, .int y5.1] rfl ?_
        refine rn_br (c := y5.1 = y1.1) rfl rfl decide_eq_true_iff (fun hb => ?_) (fun hb => ?_)
        · rw [if_pos hb] at h
          refine rn_steps 0 69 [.ref l0, .int y1.1, .int y5.1] [] rfl ?_
          exact e41_69 d _ _ _ _ _ h
        · rw [if_neg hb] at h
          refine rn_steps 1 52 [.ref l0, .int y1.1, .int y5.1] [.ref l0] rfl ?_
          obtain ⟨r6, hr6, h⟩ := Option.bind_eq_some_iff.mp h
          refine rn_gR (c := 3) (f := 2) rfl rfl ⟨⟨rfl, rfl⟩, rfl⟩ hr6 ?_
          refine rn_steps 0 55 [.ref l0, .int y1.1, .int y5.1] [.ref r6] rfl ?_
          obtain ⟨r7, hr7, h⟩ := Option.bind_eq_some_iff.mp h
          refine rn_gR (c := 0) (f := 12) rfl rfl ⟨⟨rfl, rfl⟩, rfl⟩ hr7 ?_
          refine rn_steps 2 60 [.ref l0, .int y1.1, .int y5.1] [.int y5.1, .int y1.1, .ref r7] rfl ?_
          obtain ⟨y8, hy8, h⟩ := Option.bind_eq_some_iff.mp h
          refine rn_callS [.int y1.1, .int y5.1] rfl rfl rfl ⟨rfl, rfl, rfl⟩ rfl rfl (e125 (d + 2) hy8) ?_
          refine rn_steps 0 63 [.ref l0, .int y1.1, .int y5.1] [.int y8.1, .ref r7] rfl ?_
          obtain ⟨v9, hv9, h⟩ := Option.bind_eq_some_iff.mp h
          refine rn_aI rfl hv9 ?_
          refine rn_steps 1 66 [.ref l0, .int y1.1, .int y5.1] [.int (-2), .int v9] rfl ?_
          refine rn_br (c := v9 = (-2)) rfl rfl decide_eq_true_iff (fun hb => ?_) (fun hb => ?_)
          · rw [if_pos hb] at h
            refine rn_steps 1 78 [.ref l0, .int y1.1, .int y5.1] [.ref l0] rfl ?_
            obtain ⟨r10, hr10, h⟩ := Option.bind_eq_some_iff.mp h
            refine rn_gR (c := 3) (f := 2) rfl rfl ⟨⟨rfl, rfl⟩, rfl⟩ hr10 ?_
            refine rn_steps 2 83 [.ref l0, .int y1.1, .int y5.1] [.int y5.1, .int y1.1, .ref r10] rfl ?_
            obtain ⟨u15, hu15, h⟩ := Option.bind_eq_some_iff.mp h
            obtain ⟨y11, hy11, h⟩ := Option.bind_eq_some_iff.mp h
            refine rn_callV [.int y1.1, .int y5.1] rfl rfl ⟨rfl, rfl⟩ hu15 rfl rfl (e4 (d + 1) hy11) ?_
            refine rn_steps 0 86 [.ref l0, .int y1.1, .int y5.1] [.int y11.1] rfl ?_
            refine rn_br (c := ¬ y11.1 = 0) rfl rfl decide_eq_true_iff (fun hb => ?_) (fun hb => ?_)
            · rw [if_neg hb] at h
              refine rn_steps 2 100 [.ref l0, .int y1.1, .int y5.1] [.int y5.1, .int y1.1] rfl ?_
              obtain ⟨y12, hy12, h⟩ := Option.bind_eq_some_iff.mp h
              refine rn_callS [.int y1.1, .int y5.1] rfl rfl rfl ⟨rfl, rfl, rfl⟩ rfl rfl (e125 (d + 2) hy12) ?_
              refine rn_steps 0 103 [.ref l0, .int y1.1, .int y5.1] [.int y12.1] rfl ?_
              cases h
              exact rn_ret rfl rfl rfl
            · rw [if_pos (Decidable.not_not.mp hb)] at h
              refine rn_steps 2 92 [.ref l0, .int y1.1, .int y5.1] [.int 7, .ref l0] rfl ?_
              obtain ⟨u14, hu14, h⟩ := Option.bind_eq_some_iff.mp h
              obtain ⟨y13, hy13, h⟩ := Option.bind_eq_some_iff.mp h
              refine rn_callV [.int 7] rfl rfl ⟨rfl, rfl⟩ hu14 rfl rfl (e25 (d + 2) hy13) ?_
              refine rn_steps 2 97 [.ref l0, .int y1.1, .int y5.1] [.int (-1)] rfl ?_
              cases h
              exact rn_ret rfl rfl rfl
          · rw [if_neg hb] at h
            refine rn_steps 0 69 [.ref l0, .int y1.1, .int y5.1] [] rfl ?_
            exact e41_69 d _ _ _ _ _ h
      · rw [if_pos (Decidable.not_not.mp hb)] at h
        refine rn_steps 1 45 [.ref l0, .int y1.1, .int y5.1] [.int (-1)] rfl ?_
        cases h
        exact rn_ret rfl rfl rfl
    · rw [if_pos (Decidable.not_not.mp hb)] at h
      refine rn_steps 2 28 [.ref l0, .int y1.1, .retAddr 0] [.int 7, .ref l0] rfl ?_
      obtain ⟨u18, hu18, h⟩ := Option.bind_eq_some_iff.mp h
      obtain ⟨y17, hy17, h⟩ := Option.bind_eq_some_iff.mp h
      refine rn_callV [.int 7] rfl rfl ⟨rfl, rfl⟩ hu18 rfl rfl (e25 (d + 2) hy17) ?_
      refine rn_steps 2 33 [.ref l0, .int y1.1, .retAddr 0] [.int (-1)] rfl ?_
      cases h
      exact rn_ret rfl rfl rfl
  · rw [if_pos (Decidable.not_not.mp hb)] at h
    refine rn_steps 1 11 [.ref l0, .int y1.1, .retAddr 0] [.int (-1)] rfl ?_
    cases h
    exact rn_ret rfl rfl rfl
noncomputable def f42_34 (σ : xM) : Option (Int32 × xM) :=
  rZ 0 σ
set_option maxRecDepth 20000 in
set_option maxHeartbeats 1000000 in
theorem e42_34 (d : Nat) (x0 x1 : Value) (σ : xM) (y : Int32 × xM) (h : f42_34 σ = some y) : Rn (d + 4) 42 34 [x0, x1] [] σ (some (.int y.1), y.2) := by
  unfold f42_34 at h
  refine rn_steps 1 35 [x0, x1] [.int 0] rfl ?_
  exact rn_retZ rfl rfl h
/-- LastAsked$Reader.readAsked()Z -/
noncomputable def f42 (l0 : Nat) (σ : xM) : Option (Int32 × xM) :=
  (cO σ l0 3).bind fun u15 =>
  (f41 l0 σ).bind fun y1 =>
  if y1.1 = (-1) then
  f42_34 y1.2
  else
  (cO y1.2 l0 3).bind fun u14 =>
  (f30 l0 24948 y1.2).bind fun y2 =>
  if y2.1 = 0 then
  f42_34 y2.2
  else
  (gR y2.2 l0 3 2).bind fun r3 =>
  (gI y2.2 r3 0 0).bind fun v4 =>
  (cO y2.2 l0 3).bind fun u13 =>
  (f31 l0 v4 y2.2).bind fun y5 =>
  if y5.1 = 0 then
  f42_34 y5.2
  else
  (gR y5.2 l0 3 2).bind fun r6 =>
  (gR y5.2 r6 0 12).bind fun r7 =>
  (gI y5.2 l0 3 9).bind fun v8 =>
  (tI y5.2 r7 y1.1 v8).bind fun σ9 =>
  (gR σ9 l0 3 2).bind fun r10 =>
  (gI σ9 r10 0 4).bind fun v11 =>
  (pI σ9 r10 0 4 (v11 + 1)).bind fun σ12 =>
  rZ 1 σ12
set_option maxRecDepth 20000 in
set_option maxHeartbeats 1000000 in
theorem e42 (d : Nat) {l0 : Nat} {σ : xM} {y : Int32 × xM} (h : f42 l0 σ = some y) : Rn (d + 4) 42 0 [.ref l0, .retAddr 0] [] σ (some (.int y.1), y.2) := by
  unfold f42 at h
  refine rn_steps 1 1 [.ref l0, .retAddr 0] [.ref l0] rfl ?_
  obtain ⟨u15, hu15, h⟩ := Option.bind_eq_some_iff.mp h
  obtain ⟨y1, hy1, h⟩ := Option.bind_eq_some_iff.mp h
  refine rn_callV [] rfl rfl ⟨rfl, rfl⟩ hu15 rfl rfl (e41 d hy1) ?_
  refine rn_steps 3 7 [.ref l0, .int y1.1] [.int (-1), .int y1.1] rfl ?_
  refine rn_br (c := y1.1 = (-1)) rfl rfl decide_eq_true_iff (fun hb => ?_) (fun hb => ?_)
  · rw [if_pos hb] at h
    refine rn_steps 0 34 [.ref l0, .int y1.1] [] rfl ?_
    exact e42_34 d _ _ _ _ h
  · rw [if_neg hb] at h
    refine rn_steps 2 14 [.ref l0, .int y1.1] [.long 24948, .ref l0] rfl ?_
    obtain ⟨u14, hu14, h⟩ := Option.bind_eq_some_iff.mp h
    obtain ⟨y2, hy2, h⟩ := Option.bind_eq_some_iff.mp h
    refine rn_callV [.long 24948] rfl rfl ⟨rfl, rfl⟩ hu14 rfl rfl (e30 (d + 1) hy2) ?_
    refine rn_steps 0 17 [.ref l0, .int y1.1] [.int y2.1] rfl ?_
    refine rn_br (c := y2.1 = 0) rfl rfl decide_eq_true_iff (fun hb => ?_) (fun hb => ?_)
    · rw [if_pos hb] at h
      refine rn_steps 0 34 [.ref l0, .int y1.1] [] rfl ?_
      exact e42_34 d _ _ _ _ h
    · rw [if_neg hb] at h
      refine rn_steps 2 22 [.ref l0, .int y1.1] [.ref l0, .ref l0] rfl ?_
      obtain ⟨r3, hr3, h⟩ := Option.bind_eq_some_iff.mp h
      refine rn_gR (c := 3) (f := 2) rfl rfl ⟨⟨rfl, rfl⟩, rfl⟩ hr3 ?_
      refine rn_steps 0 25 [.ref l0, .int y1.1] [.ref r3, .ref l0] rfl ?_
      obtain ⟨v4, hv4, h⟩ := Option.bind_eq_some_iff.mp h
      refine rn_gI (c := 0) (f := 0) rfl rfl ⟨⟨rfl, rfl⟩, Or.inl rfl⟩ hv4 ?_
      refine rn_steps 0 28 [.ref l0, .int y1.1] [.int v4, .ref l0] rfl ?_
      obtain ⟨u13, hu13, h⟩ := Option.bind_eq_some_iff.mp h
      obtain ⟨y5, hy5, h⟩ := Option.bind_eq_some_iff.mp h
      refine rn_callV [.int v4] rfl rfl ⟨rfl, rfl⟩ hu13 rfl rfl (e31 (d + 1) hy5) ?_
      refine rn_steps 0 31 [.ref l0, .int y1.1] [.int y5.1] rfl ?_
      refine rn_br (c := ¬ y5.1 = 0) rfl rfl decide_eq_true_iff (fun hb => ?_) (fun hb => ?_)
      · rw [if_neg hb] at h
        refine rn_steps 1 37 [.ref l0, .int y1.1] [.ref l0] rfl ?_
        obtain ⟨r6, hr6, h⟩ := Option.bind_eq_some_iff.mp h
        refine rn_gR (c := 3) (f := 2) rfl rfl ⟨⟨rfl, rfl⟩, rfl⟩ hr6 ?_
        refine rn_steps 0 40 [.ref l0, .int y1.1] [.ref r6] rfl ?_
        obtain ⟨r7, hr7, h⟩ := Option.bind_eq_some_iff.mp h
        refine rn_gR (c := 0) (f := 12) rfl rfl ⟨⟨rfl, rfl⟩, rfl⟩ hr7 ?_
        refine rn_steps 2 45 [.ref l0, .int y1.1] [.ref l0, .int y1.1, .ref r7] rfl ?_
        obtain ⟨v8, hv8, h⟩ := Option.bind_eq_some_iff.mp h
        refine rn_gI (c := 3) (f := 9) rfl rfl ⟨⟨rfl, rfl⟩, Or.inl rfl⟩ hv8 ?_
        refine rn_steps 0 48 [.ref l0, .int y1.1] [.int v8, .int y1.1, .ref r7] rfl ?_
        obtain ⟨σ9, hσ9, h⟩ := Option.bind_eq_some_iff.mp h
        refine rn_tI rfl hσ9 ?_
        refine rn_steps 1 50 [.ref l0, .int y1.1] [.ref l0] rfl ?_
        obtain ⟨r10, hr10, h⟩ := Option.bind_eq_some_iff.mp h
        refine rn_gR (c := 3) (f := 2) rfl rfl ⟨⟨rfl, rfl⟩, rfl⟩ hr10 ?_
        refine rn_steps 1 54 [.ref l0, .int y1.1] [.ref r10, .ref r10] rfl ?_
        obtain ⟨v11, hv11, h⟩ := Option.bind_eq_some_iff.mp h
        refine rn_gI (c := 0) (f := 4) rfl rfl ⟨⟨rfl, rfl⟩, Or.inl rfl⟩ hv11 ?_
        refine rn_steps 2 59 [.ref l0, .int y1.1] [.int (v11 + 1), .ref r10] rfl ?_
        obtain ⟨σ12, hσ12, h⟩ := Option.bind_eq_some_iff.mp h
        refine rn_pI (c := 0) (f := 4) rfl rfl ⟨⟨rfl, rfl⟩, rfl⟩ hσ12 ?_
        refine rn_steps 1 63 [.ref l0, .int y1.1] [.int 1] rfl ?_
        exact rn_retZ rfl rfl h
      · rw [if_pos (Decidable.not_not.mp hb)] at h
        refine rn_steps 0 34 [.ref l0, .int y1.1] [] rfl ?_
        exact e42_34 d _ _ _ _ h
noncomputable def f43_98 (σ : xM) : Option (Int32 × xM) :=
  rZ 0 σ
set_option maxRecDepth 20000 in
set_option maxHeartbeats 1000000 in
theorem e43_98 (d : Nat) (x0 x1 x2 : Value) (σ : xM) (y : Int32 × xM) (h : f43_98 σ = some y) : Rn (d + 4) 43 98 [x0, x1, x2] [] σ (some (.int y.1), y.2) := by
  unfold f43_98 at h
  refine rn_steps 1 99 [x0, x1, x2] [.int 0] rfl ?_
  exact rn_retZ rfl rfl h
noncomputable def f43_42 (σ : xM) : Option (Int32 × xM) :=
  rZ 0 σ
set_option maxRecDepth 20000 in
set_option maxHeartbeats 1000000 in
theorem e43_42 (d : Nat) (x0 x1 x2 : Value) (σ : xM) (y : Int32 × xM) (h : f43_42 σ = some y) : Rn (d + 4) 43 42 [x0, x1, x2] [] σ (some (.int y.1), y.2) := by
  unfold f43_42 at h
  refine rn_steps 1 43 [x0, x1, x2] [.int 0] rfl ?_
  exact rn_retZ rfl rfl h
/-- LastAsked$Reader.readHeard()Z -/
noncomputable def f43 (l0 : Nat) (σ : xM) : Option (Int32 × xM) :=
  (gR σ l0 3 2).bind fun r1 =>
  (gI σ r1 0 5).bind fun v2 =>
  (cO σ l0 3).bind fun u32 =>
  (f41 l0 σ).bind fun y3 =>
  if y3.1 = (-1) then
  f43_42 y3.2
  else
  (cO y3.2 l0 3).bind fun u31 =>
  (f30 l0 24948 y3.2).bind fun y4 =>
  if y4.1 = 0 then
  f43_42 y4.2
  else
  (gR y4.2 l0 3 2).bind fun r5 =>
  (gI y4.2 r5 0 0).bind fun v6 =>
  (cO y4.2 l0 3).bind fun u30 =>
  (f31 l0 v6 y4.2).bind fun y7 =>
  if y7.1 = 0 then
  f43_42 y7.2
  else
  (gR y7.2 l0 3 2).bind fun r8 =>
  (gR y7.2 r8 0 12).bind fun r9 =>
  (gI y7.2 l0 3 9).bind fun v10 =>
  (tI y7.2 r9 y3.1 v10).bind fun σ11 =>
  (gR σ11 l0 3 2).bind fun r12 =>
  (gR σ11 r12 0 14).bind fun r13 =>
  (tI σ11 r13 v2 y3.1).bind fun σ14 =>
  (gR σ14 l0 3 2).bind fun r15 =>
  (gR σ14 r15 0 15).bind fun r16 =>
  (gI σ14 l0 3 9).bind fun v17 =>
  (tI σ14 r16 v2 v17).bind fun σ18 =>
  (cO σ18 l0 3).bind fun u29 =>
  (f30 l0 1734964837 σ18).bind fun y19 =>
  if y19.1 = 0 then
  f43_98 y19.2
  else
  (cO y19.2 l0 3).bind fun u28 =>
  (f31 l0 3 y19.2).bind fun y20 =>
  if y20.1 = 0 then
  f43_98 y20.2
  else
  (gR y20.2 l0 3 2).bind fun r21 =>
  (gR y20.2 r21 0 16).bind fun r22 =>
  (gI y20.2 l0 3 9).bind fun v23 =>
  (tI y20.2 r22 v2 v23).bind fun σ24 =>
  (gR σ24 l0 3 2).bind fun r25 =>
  (gI σ24 r25 0 5).bind fun v26 =>
  (pI σ24 r25 0 5 (v26 + 1)).bind fun σ27 =>
  rZ 1 σ27
set_option maxRecDepth 20000 in
set_option maxHeartbeats 1000000 in
theorem e43 (d : Nat) {l0 : Nat} {σ : xM} {y : Int32 × xM} (h : f43 l0 σ = some y) : Rn (d + 4) 43 0 [.ref l0, .retAddr 0, .retAddr 0] [] σ (some (.int y.1), y.2) := by
  unfold f43 at h
  refine rn_steps 1 1 [.ref l0, .retAddr 0, .retAddr 0] [.ref l0] rfl ?_
  obtain ⟨r1, hr1, h⟩ := Option.bind_eq_some_iff.mp h
  refine rn_gR (c := 3) (f := 2) rfl rfl ⟨⟨rfl, rfl⟩, rfl⟩ hr1 ?_
  refine rn_steps 0 4 [.ref l0, .retAddr 0, .retAddr 0] [.ref r1] rfl ?_
  obtain ⟨v2, hv2, h⟩ := Option.bind_eq_some_iff.mp h
  refine rn_gI (c := 0) (f := 5) rfl rfl ⟨⟨rfl, rfl⟩, Or.inl rfl⟩ hv2 ?_
  refine rn_steps 2 9 [.ref l0, .int v2, .retAddr 0] [.ref l0] rfl ?_
  obtain ⟨u32, hu32, h⟩ := Option.bind_eq_some_iff.mp h
  obtain ⟨y3, hy3, h⟩ := Option.bind_eq_some_iff.mp h
  refine rn_callV [] rfl rfl ⟨rfl, rfl⟩ hu32 rfl rfl (e41 d hy3) ?_
  refine rn_steps 3 15 [.ref l0, .int v2, .int y3.1] [.int (-1), .int y3.1] rfl ?_
  refine rn_br (c := y3.1 = (-1)) rfl rfl decide_eq_true_iff (fun hb => ?_) (fun hb => ?_)
  · rw [if_pos hb] at h
    refine rn_steps 0 42 [.ref l0, .int v2, .int y3.1] [] rfl ?_
    exact e43_42 d _ _ _ _ _ h
  · rw [if_neg hb] at h
    refine rn_steps 2 22 [.ref l0, .int v2, .int y3.1] [.long 24948, .ref l0] rfl ?_
    obtain ⟨u31, hu31, h⟩ := Option.bind_eq_some_iff.mp h
    obtain ⟨y4, hy4, h⟩ := Option.bind_eq_some_iff.mp h
    refine rn_callV [.long 24948] rfl rfl ⟨rfl, rfl⟩ hu31 rfl rfl (e30 (d + 1) hy4) ?_
    refine rn_steps 0 25 [.ref l0, .int v2, .int y3.1] [.int y4.1] rfl ?_
    refine rn_br (c := y4.1 = 0) rfl rfl decide_eq_true_iff (fun hb => ?_) (fun hb => ?_)
    · rw [if_pos hb] at h
      refine rn_steps 0 42 [.ref l0, .int v2, .int y3.1] [] rfl ?_
      exact e43_42 d _ _ _ _ _ h
    · rw [if_neg hb] at h
      refine rn_steps 2 30 [.ref l0, .int v2, .int y3.1] [.ref l0, .ref l0] rfl ?_
      obtain ⟨r5, hr5, h⟩ := Option.bind_eq_some_iff.mp h
      refine rn_gR (c := 3) (f := 2) rfl rfl ⟨⟨rfl, rfl⟩, rfl⟩ hr5 ?_
      refine rn_steps 0 33 [.ref l0, .int v2, .int y3.1] [.ref r5, .ref l0] rfl ?_
      obtain ⟨v6, hv6, h⟩ := Option.bind_eq_some_iff.mp h
      refine rn_gI (c := 0) (f := 0) rfl rfl ⟨⟨rfl, rfl⟩, Or.inl rfl⟩ hv6 ?_
      refine rn_steps 0 36 [.ref l0, .int v2, .int y3.1] [.int v6, .ref l0] rfl ?_
      obtain ⟨u30, hu30, h⟩ := Option.bind_eq_some_iff.mp h
      obtain ⟨y7, hy7, h⟩ := Option.bind_eq_some_iff.mp h
      refine rn_callV [.int v6] rfl rfl ⟨rfl, rfl⟩ hu30 rfl rfl (e31 (d + 1) hy7) ?_
      refine rn_steps 0 39 [.ref l0, .int v2, .int y3.1] [.int y7.1] rfl ?_
      refine rn_br (c := ¬ y7.1 = 0) rfl rfl decide_eq_true_iff (fun hb => ?_) (fun hb => ?_)
      · rw [if_neg hb] at h
        refine rn_steps 1 45 [.ref l0, .int v2, .int y3.1] [.ref l0] rfl ?_
        obtain ⟨r8, hr8, h⟩ := Option.bind_eq_some_iff.mp h
        refine rn_gR (c := 3) (f := 2) rfl rfl ⟨⟨rfl, rfl⟩, rfl⟩ hr8 ?_
        refine rn_steps 0 48 [.ref l0, .int v2, .int y3.1] [.ref r8] rfl ?_
        obtain ⟨r9, hr9, h⟩ := Option.bind_eq_some_iff.mp h
        refine rn_gR (c := 0) (f := 12) rfl rfl ⟨⟨rfl, rfl⟩, rfl⟩ hr9 ?_
        refine rn_steps 2 53 [.ref l0, .int v2, .int y3.1] [.ref l0, .int y3.1, .ref r9] rfl ?_
        obtain ⟨v10, hv10, h⟩ := Option.bind_eq_some_iff.mp h
        refine rn_gI (c := 3) (f := 9) rfl rfl ⟨⟨rfl, rfl⟩, Or.inl rfl⟩ hv10 ?_
        refine rn_steps 0 56 [.ref l0, .int v2, .int y3.1] [.int v10, .int y3.1, .ref r9] rfl ?_
        obtain ⟨σ11, hσ11, h⟩ := Option.bind_eq_some_iff.mp h
        refine rn_tI rfl hσ11 ?_
        refine rn_steps 1 58 [.ref l0, .int v2, .int y3.1] [.ref l0] rfl ?_
        obtain ⟨r12, hr12, h⟩ := Option.bind_eq_some_iff.mp h
        refine rn_gR (c := 3) (f := 2) rfl rfl ⟨⟨rfl, rfl⟩, rfl⟩ hr12 ?_
        refine rn_steps 0 61 [.ref l0, .int v2, .int y3.1] [.ref r12] rfl ?_
        obtain ⟨r13, hr13, h⟩ := Option.bind_eq_some_iff.mp h
        refine rn_gR (c := 0) (f := 14) rfl rfl ⟨⟨rfl, rfl⟩, rfl⟩ hr13 ?_
        refine rn_steps 2 66 [.ref l0, .int v2, .int y3.1] [.int y3.1, .int v2, .ref r13] rfl ?_
        obtain ⟨σ14, hσ14, h⟩ := Option.bind_eq_some_iff.mp h
        refine rn_tI rfl hσ14 ?_
        refine rn_steps 1 68 [.ref l0, .int v2, .int y3.1] [.ref l0] rfl ?_
        obtain ⟨r15, hr15, h⟩ := Option.bind_eq_some_iff.mp h
        refine rn_gR (c := 3) (f := 2) rfl rfl ⟨⟨rfl, rfl⟩, rfl⟩ hr15 ?_
        refine rn_steps 0 71 [.ref l0, .int v2, .int y3.1] [.ref r15] rfl ?_
        obtain ⟨r16, hr16, h⟩ := Option.bind_eq_some_iff.mp h
        refine rn_gR (c := 0) (f := 15) rfl rfl ⟨⟨rfl, rfl⟩, rfl⟩ hr16 ?_
        refine rn_steps 2 76 [.ref l0, .int v2, .int y3.1] [.ref l0, .int v2, .ref r16] rfl ?_
        obtain ⟨v17, hv17, h⟩ := Option.bind_eq_some_iff.mp h
        refine rn_gI (c := 3) (f := 9) rfl rfl ⟨⟨rfl, rfl⟩, Or.inl rfl⟩ hv17 ?_
        refine rn_steps 0 79 [.ref l0, .int v2, .int y3.1] [.int v17, .int v2, .ref r16] rfl ?_
        obtain ⟨σ18, hσ18, h⟩ := Option.bind_eq_some_iff.mp h
        refine rn_tI rfl hσ18 ?_
        refine rn_steps 2 84 [.ref l0, .int v2, .int y3.1] [.long 1734964837, .ref l0] rfl ?_
        obtain ⟨u29, hu29, h⟩ := Option.bind_eq_some_iff.mp h
        obtain ⟨y19, hy19, h⟩ := Option.bind_eq_some_iff.mp h
        refine rn_callV [.long 1734964837] rfl rfl ⟨rfl, rfl⟩ hu29 rfl rfl (e30 (d + 1) hy19) ?_
        refine rn_steps 0 87 [.ref l0, .int v2, .int y3.1] [.int y19.1] rfl ?_
        refine rn_br (c := y19.1 = 0) rfl rfl decide_eq_true_iff (fun hb => ?_) (fun hb => ?_)
        · rw [if_pos hb] at h
          refine rn_steps 0 98 [.ref l0, .int v2, .int y3.1] [] rfl ?_
          exact e43_98 d _ _ _ _ _ h
        · rw [if_neg hb] at h
          refine rn_steps 2 92 [.ref l0, .int v2, .int y3.1] [.int 3, .ref l0] rfl ?_
          obtain ⟨u28, hu28, h⟩ := Option.bind_eq_some_iff.mp h
          obtain ⟨y20, hy20, h⟩ := Option.bind_eq_some_iff.mp h
          refine rn_callV [.int 3] rfl rfl ⟨rfl, rfl⟩ hu28 rfl rfl (e31 (d + 1) hy20) ?_
          refine rn_steps 0 95 [.ref l0, .int v2, .int y3.1] [.int y20.1] rfl ?_
          refine rn_br (c := ¬ y20.1 = 0) rfl rfl decide_eq_true_iff (fun hb => ?_) (fun hb => ?_)
          · rw [if_neg hb] at h
            refine rn_steps 1 101 [.ref l0, .int v2, .int y3.1] [.ref l0] rfl ?_
            obtain ⟨r21, hr21, h⟩ := Option.bind_eq_some_iff.mp h
            refine rn_gR (c := 3) (f := 2) rfl rfl ⟨⟨rfl, rfl⟩, rfl⟩ hr21 ?_
            refine rn_steps 0 104 [.ref l0, .int v2, .int y3.1] [.ref r21] rfl ?_
            obtain ⟨r22, hr22, h⟩ := Option.bind_eq_some_iff.mp h
            refine rn_gR (c := 0) (f := 16) rfl rfl ⟨⟨rfl, rfl⟩, rfl⟩ hr22 ?_
            refine rn_steps 2 109 [.ref l0, .int v2, .int y3.1] [.ref l0, .int v2, .ref r22] rfl ?_
            obtain ⟨v23, hv23, h⟩ := Option.bind_eq_some_iff.mp h
            refine rn_gI (c := 3) (f := 9) rfl rfl ⟨⟨rfl, rfl⟩, Or.inl rfl⟩ hv23 ?_
            refine rn_steps 0 112 [.ref l0, .int v2, .int y3.1] [.int v23, .int v2, .ref r22] rfl ?_
            obtain ⟨σ24, hσ24, h⟩ := Option.bind_eq_some_iff.mp h
            refine rn_tI rfl hσ24 ?_
            refine rn_steps 1 114 [.ref l0, .int v2, .int y3.1] [.ref l0] rfl ?_
            obtain ⟨r25, hr25, h⟩ := Option.bind_eq_some_iff.mp h
            refine rn_gR (c := 3) (f := 2) rfl rfl ⟨⟨rfl, rfl⟩, rfl⟩ hr25 ?_
            refine rn_steps 1 118 [.ref l0, .int v2, .int y3.1] [.ref r25, .ref r25] rfl ?_
            obtain ⟨v26, hv26, h⟩ := Option.bind_eq_some_iff.mp h
            refine rn_gI (c := 0) (f := 5) rfl rfl ⟨⟨rfl, rfl⟩, Or.inl rfl⟩ hv26 ?_
            refine rn_steps 2 123 [.ref l0, .int v2, .int y3.1] [.int (v26 + 1), .ref r25] rfl ?_
            obtain ⟨σ27, hσ27, h⟩ := Option.bind_eq_some_iff.mp h
            refine rn_pI (c := 0) (f := 5) rfl rfl ⟨⟨rfl, rfl⟩, rfl⟩ hσ27 ?_
            refine rn_steps 1 127 [.ref l0, .int v2, .int y3.1] [.int 1] rfl ?_
            exact rn_retZ rfl rfl h
          · rw [if_pos (Decidable.not_not.mp hb)] at h
            refine rn_steps 0 98 [.ref l0, .int v2, .int y3.1] [] rfl ?_
            exact e43_98 d _ _ _ _ _ h
      · rw [if_pos (Decidable.not_not.mp hb)] at h
        refine rn_steps 0 42 [.ref l0, .int v2, .int y3.1] [] rfl ?_
        exact e43_42 d _ _ _ _ _ h
noncomputable def f44_56 (l0 : Nat) (l1 : Int32) (s0 : Int32) (σ : xM) : Option (Int32 × xM) :=
  if s0 = (-1) then
  rZ 0 σ
  else
  if s0 = l1 then
  (cO σ l0 3).bind fun u8 =>
  (f25 l0 3 σ).bind fun y7 =>
  rZ y7.1 y7.2
  else
  (gR σ l0 3 2).bind fun r1 =>
  (gR σ r1 0 11).bind fun r2 =>
  (tI σ r2 l1 s0).bind fun σ3 =>
  (gR σ3 l0 3 2).bind fun r4 =>
  (gI σ3 r4 0 6).bind fun v5 =>
  (pI σ3 r4 0 6 (v5 + 1)).bind fun σ6 =>
  rZ 1 σ6
set_option maxRecDepth 20000 in
set_option maxHeartbeats 1000000 in
theorem e44_56 (d : Nat) (l0 : Nat) (l1 : Int32) (s0 : Int32) (x2 : Value) (σ : xM) (y : Int32 × xM) (h : f44_56 l0 l1 s0 σ = some y) : Rn (d + 3) 44 56 [.ref l0, .int l1, x2] [.int s0] σ (some (.int y.1), y.2) := by
  unfold f44_56 at h
  refine rn_steps 3 59 [.ref l0, .int l1, .int s0] [.int (-1), .int s0] rfl ?_
  refine rn_br (c := ¬ s0 = (-1)) rfl rfl decide_eq_true_iff (fun hb => ?_) (fun hb => ?_)
  · rw [if_neg hb] at h
    refine rn_steps 2 66 [.ref l0, .int l1, .int s0] [.int l1, .int s0] rfl ?_
    refine rn_br (c := ¬ s0 = l1) rfl rfl decide_eq_true_iff (fun hb => ?_) (fun hb => ?_)
    · rw [if_neg hb] at h
      refine rn_steps 1 76 [.ref l0, .int l1, .int s0] [.ref l0] rfl ?_
      obtain ⟨r1, hr1, h⟩ := Option.bind_eq_some_iff.mp h
      refine rn_gR (c := 3) (f := 2) rfl rfl ⟨⟨rfl, rfl⟩, rfl⟩ hr1 ?_
      refine rn_steps 0 79 [.ref l0, .int l1, .int s0] [.ref r1] rfl ?_
      obtain ⟨r2, hr2, h⟩ := Option.bind_eq_some_iff.mp h
      refine rn_gR (c := 0) (f := 11) rfl rfl ⟨⟨rfl, rfl⟩, rfl⟩ hr2 ?_
      refine rn_steps 2 84 [.ref l0, .int l1, .int s0] [.int s0, .int l1, .ref r2] rfl ?_
      obtain ⟨σ3, hσ3, h⟩ := Option.bind_eq_some_iff.mp h
      refine rn_tI rfl hσ3 ?_
      refine rn_steps 1 86 [.ref l0, .int l1, .int s0] [.ref l0] rfl ?_
      obtain ⟨r4, hr4, h⟩ := Option.bind_eq_some_iff.mp h
      refine rn_gR (c := 3) (f := 2) rfl rfl ⟨⟨rfl, rfl⟩, rfl⟩ hr4 ?_
      refine rn_steps 1 90 [.ref l0, .int l1, .int s0] [.ref r4, .ref r4] rfl ?_
      obtain ⟨v5, hv5, h⟩ := Option.bind_eq_some_iff.mp h
      refine rn_gI (c := 0) (f := 6) rfl rfl ⟨⟨rfl, rfl⟩, Or.inl rfl⟩ hv5 ?_
      refine rn_steps 2 95 [.ref l0, .int l1, .int s0] [.int (v5 + 1), .ref r4] rfl ?_
      obtain ⟨σ6, hσ6, h⟩ := Option.bind_eq_some_iff.mp h
      refine rn_pI (c := 0) (f := 6) rfl rfl ⟨⟨rfl, rfl⟩, rfl⟩ hσ6 ?_
      refine rn_steps 1 99 [.ref l0, .int l1, .int s0] [.int 1] rfl ?_
      exact rn_retZ rfl rfl h
    · rw [if_pos (Decidable.not_not.mp hb)] at h
      refine rn_steps 2 71 [.ref l0, .int l1, .int s0] [.int 3, .ref l0] rfl ?_
      obtain ⟨u8, hu8, h⟩ := Option.bind_eq_some_iff.mp h
      obtain ⟨y7, hy7, h⟩ := Option.bind_eq_some_iff.mp h
      refine rn_callV [.int 3] rfl rfl ⟨rfl, rfl⟩ hu8 rfl rfl (e25 (d + 2) hy7) ?_
      refine rn_steps 0 74 [.ref l0, .int l1, .int s0] [.int y7.1] rfl ?_
      exact rn_retZ rfl rfl h
  · rw [if_pos (Decidable.not_not.mp hb)] at h
    refine rn_steps 1 63 [.ref l0, .int l1, .int s0] [.int 0] rfl ?_
    exact rn_retZ rfl rfl h
/-- LastAsked$Reader.readWent()Z -/
noncomputable def f44 (l0 : Nat) (σ : xM) : Option (Int32 × xM) :=
  (cO σ l0 3).bind fun u13 =>
  (f35 l0 σ).bind fun y1 =>
  if y1.1 = (-1) then
  rZ 0 y1.2
  else
  (gR y1.2 l0 3 2).bind fun r2 =>
  (gR y1.2 r2 0 11).bind fun r3 =>
  (aI y1.2 r3 y1.1).bind fun v4 =>
  if v4 = (-3) then
  (cO y1.2 l0 3).bind fun u10 =>
  (f26 l0 y1.2).bind fun y5 =>
  (cO y5.2 l0 3).bind fun u9 =>
  (f29 l0 6513012 y5.2).bind fun y6 =>
  if y6.1 = 0 then
  (cO y6.2 l0 3).bind fun u8 =>
  (f34 l0 y6.2).bind fun y7 =>
  f44_56 l0 y1.1 y7.1 y7.2
  else
  f44_56 l0 y1.1 (-2) y6.2
  else
  (cO y1.2 l0 3).bind fun u12 =>
  (f25 l0 3 y1.2).bind fun y11 =>
  rZ y11.1 y11.2
set_option maxRecDepth 20000 in
set_option maxHeartbeats 1000000 in
theorem e44 (d : Nat) {l0 : Nat} {σ : xM} {y : Int32 × xM} (h : f44 l0 σ = some y) : Rn (d + 3) 44 0 [.ref l0, .retAddr 0, .retAddr 0] [] σ (some (.int y.1), y.2) := by
  unfold f44 at h
  refine rn_steps 1 1 [.ref l0, .retAddr 0, .retAddr 0] [.ref l0] rfl ?_
  obtain ⟨u13, hu13, h⟩ := Option.bind_eq_some_iff.mp h
  obtain ⟨y1, hy1, h⟩ := Option.bind_eq_some_iff.mp h
  refine rn_callV [] rfl rfl ⟨rfl, rfl⟩ hu13 rfl rfl (e35 d hy1) ?_
  refine rn_steps 3 7 [.ref l0, .int y1.1, .retAddr 0] [.int (-1), .int y1.1] rfl ?_
  refine rn_br (c := ¬ y1.1 = (-1)) rfl rfl decide_eq_true_iff (fun hb => ?_) (fun hb => ?_)
  · rw [if_neg hb] at h
    refine rn_steps 1 13 [.ref l0, .int y1.1, .retAddr 0] [.ref l0] rfl ?_
    obtain ⟨r2, hr2, h⟩ := Option.bind_eq_some_iff.mp h
    refine rn_gR (c := 3) (f := 2) rfl rfl ⟨⟨rfl, rfl⟩, rfl⟩ hr2 ?_
    refine rn_steps 0 16 [.ref l0, .int y1.1, .retAddr 0] [.ref r2] rfl ?_
    obtain ⟨r3, hr3, h⟩ := Option.bind_eq_some_iff.mp h
    refine rn_gR (c := 0) (f := 11) rfl rfl ⟨⟨rfl, rfl⟩, rfl⟩ hr3 ?_
    refine rn_steps 1 20 [.ref l0, .int y1.1, .retAddr 0] [.int y1.1, .ref r3] rfl ?_
    obtain ⟨v4, hv4, h⟩ := Option.bind_eq_some_iff.mp h
    refine rn_aI rfl hv4 ?_
    refine rn_steps 1 23 [.ref l0, .int y1.1, .retAddr 0] [.int (-3), .int v4] rfl ?_
    refine rn_br (c := v4 = (-3)) rfl rfl decide_eq_true_iff (fun hb => ?_) (fun hb => ?_)
    · rw [if_pos hb] at h
      refine rn_steps 1 33 [.ref l0, .int y1.1, .retAddr 0] [.ref l0] rfl ?_
      obtain ⟨u10, hu10, h⟩ := Option.bind_eq_some_iff.mp h
      obtain ⟨y5, hy5, h⟩ := Option.bind_eq_some_iff.mp h
      refine rn_callV [] rfl rfl ⟨rfl, rfl⟩ hu10 rfl rfl (e26 (d + 1) hy5) ?_
      refine rn_steps 3 41 [.ref l0, .int y1.1, .retAddr 0] [.long 6513012, .ref l0] rfl ?_
      obtain ⟨u9, hu9, h⟩ := Option.bind_eq_some_iff.mp h
      obtain ⟨y6, hy6, h⟩ := Option.bind_eq_some_iff.mp h
      refine rn_callV [.long 6513012] rfl rfl ⟨rfl, rfl⟩ hu9 rfl rfl (e29 (d + 2) hy6) ?_
      refine rn_steps 0 44 [.ref l0, .int y1.1, .retAddr 0] [.int y6.1] rfl ?_
      refine rn_br (c := y6.1 = 0) rfl rfl decide_eq_true_iff (fun hb => ?_) (fun hb => ?_)
      · rw [if_pos hb] at h
        refine rn_steps 1 53 [.ref l0, .int y1.1, .retAddr 0] [.ref l0] rfl ?_
        obtain ⟨u8, hu8, h⟩ := Option.bind_eq_some_iff.mp h
        obtain ⟨y7, hy7, h⟩ := Option.bind_eq_some_iff.mp h
        refine rn_callV [] rfl rfl ⟨rfl, rfl⟩ hu8 rfl rfl (e34 (d + 1) hy7) ?_
        refine rn_steps 0 56 [.ref l0, .int y1.1, .retAddr 0] [.int y7.1] rfl ?_
        exact e44_56 d _ _ _ _ _ _ h
      · rw [if_neg hb] at h
        refine rn_steps 2 56 [.ref l0, .int y1.1, .retAddr 0] [.int (-2)] rfl ?_
        exact e44_56 d _ _ _ _ _ _ h
    · rw [if_neg hb] at h
      refine rn_steps 2 28 [.ref l0, .int y1.1, .retAddr 0] [.int 3, .ref l0] rfl ?_
      obtain ⟨u12, hu12, h⟩ := Option.bind_eq_some_iff.mp h
      obtain ⟨y11, hy11, h⟩ := Option.bind_eq_some_iff.mp h
      refine rn_callV [.int 3] rfl rfl ⟨rfl, rfl⟩ hu12 rfl rfl (e25 (d + 2) hy11) ?_
      refine rn_steps 0 31 [.ref l0, .int y1.1, .retAddr 0] [.int y11.1] rfl ?_
      exact rn_retZ rfl rfl h
  · rw [if_pos (Decidable.not_not.mp hb)] at h
    refine rn_steps 1 11 [.ref l0, .int y1.1, .retAddr 0] [.int 0] rfl ?_
    exact rn_retZ rfl rfl h
noncomputable def f36_230 (s0 : Int32) (σ : xM) : Option (Int32 × xM) :=
  rZ s0 σ
set_option maxRecDepth 20000 in
set_option maxHeartbeats 1000000 in
theorem e36_230 (d : Nat) (s0 : Int32) (x0 x1 x2 x3 x4 : Value) (σ : xM) (y : Int32 × xM) (h : f36_230 s0 σ = some y) : Rn (d + 5) 36 230 [x0, x1, x2, x3, x4] [.int s0] σ (some (.int y.1), y.2) := by
  unfold f36_230 at h
  exact rn_retZ rfl rfl h
noncomputable def f36_201 (s0 : Int32) (σ : xM) : Option (Int32 × xM) :=
  rZ s0 σ
set_option maxRecDepth 20000 in
set_option maxHeartbeats 1000000 in
theorem e36_201 (d : Nat) (s0 : Int32) (x0 x1 x2 x3 x4 : Value) (σ : xM) (y : Int32 × xM) (h : f36_201 s0 σ = some y) : Rn (d + 5) 36 201 [x0, x1, x2, x3, x4] [.int s0] σ (some (.int y.1), y.2) := by
  unfold f36_201 at h
  exact rn_retZ rfl rfl h
noncomputable def f36_172 (s0 : Int32) (σ : xM) : Option (Int32 × xM) :=
  rZ s0 σ
set_option maxRecDepth 20000 in
set_option maxHeartbeats 1000000 in
theorem e36_172 (d : Nat) (s0 : Int32) (x0 x1 x2 x3 x4 : Value) (σ : xM) (y : Int32 × xM) (h : f36_172 s0 σ = some y) : Rn (d + 5) 36 172 [x0, x1, x2, x3, x4] [.int s0] σ (some (.int y.1), y.2) := by
  unfold f36_172 at h
  exact rn_retZ rfl rfl h
noncomputable def f36_143 (s0 : Int32) (σ : xM) : Option (Int32 × xM) :=
  rZ s0 σ
set_option maxRecDepth 20000 in
set_option maxHeartbeats 1000000 in
theorem e36_143 (d : Nat) (s0 : Int32) (x0 x1 x2 x3 x4 : Value) (σ : xM) (y : Int32 × xM) (h : f36_143 s0 σ = some y) : Rn (d + 5) 36 143 [x0, x1, x2, x3, x4] [.int s0] σ (some (.int y.1), y.2) := by
  unfold f36_143 at h
  exact rn_retZ rfl rfl h
noncomputable def f36_101 (l0 : Nat) (l1 : Int32) (l2 : Int32) (l3 : Int32) (l4 : Int32) (σ : xM) : Option (Int32 × xM) :=
  (gI σ l0 3 11).bind fun v1 =>
  if v1 = 0 then
  (cO σ l0 3).bind fun u29 =>
  (f25 l0 6 σ).bind fun y28 =>
  rZ y28.1 y28.2
  else
  if l1 = 0 then
  if l2 = 0 then
  if l3 = 0 then
  if l4 = 0 then
  (cO σ l0 3).bind fun u3 =>
  (f44 l0 σ).bind fun y2 =>
  rZ y2.1 y2.2
  else
  (gR σ l0 3 2).bind fun r4 =>
  (gI σ r4 0 5).bind fun v5 =>
  if 3 ≤ v5 then
  (cO σ l0 3).bind fun u7 =>
  (f25 l0 5 σ).bind fun y6 =>
  f36_230 y6.1 y6.2
  else
  (cO σ l0 3).bind fun u9 =>
  (f43 l0 σ).bind fun y8 =>
  f36_230 y8.1 y8.2
  else
  (gR σ l0 3 2).bind fun r10 =>
  (gI σ r10 0 4).bind fun v11 =>
  if 12 ≤ v11 then
  (cO σ l0 3).bind fun u13 =>
  (f25 l0 5 σ).bind fun y12 =>
  f36_201 y12.1 y12.2
  else
  (cO σ l0 3).bind fun u15 =>
  (f42 l0 σ).bind fun y14 =>
  f36_201 y14.1 y14.2
  else
  (gR σ l0 3 2).bind fun r16 =>
  (gI σ r16 0 3).bind fun v17 =>
  if 9 ≤ v17 then
  (cO σ l0 3).bind fun u19 =>
  (f25 l0 5 σ).bind fun y18 =>
  f36_172 y18.1 y18.2
  else
  (cO σ l0 3).bind fun u21 =>
  (f40 l0 σ).bind fun y20 =>
  f36_172 y20.1 y20.2
  else
  (gR σ l0 3 2).bind fun r22 =>
  (gI σ r22 0 2).bind fun v23 =>
  if 6 ≤ v23 then
  (cO σ l0 3).bind fun u25 =>
  (f25 l0 5 σ).bind fun y24 =>
  f36_143 y24.1 y24.2
  else
  (cO σ l0 3).bind fun u27 =>
  (f38 l0 σ).bind fun y26 =>
  f36_143 y26.1 y26.2
set_option maxRecDepth 20000 in
set_option maxHeartbeats 1000000 in
theorem e36_101 (d : Nat) (l0 : Nat) (l1 : Int32) (l2 : Int32) (l3 : Int32) (l4 : Int32) (σ : xM) (y : Int32 × xM) (h : f36_101 l0 l1 l2 l3 l4 σ = some y) : Rn (d + 5) 36 101 [.ref l0, .int l1, .int l2, .int l3, .int l4] [] σ (some (.int y.1), y.2) := by
  unfold f36_101 at h
  refine rn_steps 1 102 [.ref l0, .int l1, .int l2, .int l3, .int l4] [.ref l0] rfl ?_
  obtain ⟨v1, hv1, h⟩ := Option.bind_eq_some_iff.mp h
  refine rn_gI (c := 3) (f := 11) rfl rfl ⟨⟨rfl, rfl⟩, Or.inr rfl⟩ hv1 ?_
  refine rn_steps 0 105 [.ref l0, .int l1, .int l2, .int l3, .int l4] [.int v1] rfl ?_
  refine rn_br (c := ¬ v1 = 0) rfl rfl decide_eq_true_iff (fun hb => ?_) (fun hb => ?_)
  · rw [if_neg hb] at h
    refine rn_steps 1 116 [.ref l0, .int l1, .int l2, .int l3, .int l4] [.int l1] rfl ?_
    refine rn_br (c := l1 = 0) rfl rfl decide_eq_true_iff (fun hb => ?_) (fun hb => ?_)
    · rw [if_pos hb] at h
      refine rn_steps 1 145 [.ref l0, .int l1, .int l2, .int l3, .int l4] [.int l2] rfl ?_
      refine rn_br (c := l2 = 0) rfl rfl decide_eq_true_iff (fun hb => ?_) (fun hb => ?_)
      · rw [if_pos hb] at h
        refine rn_steps 1 174 [.ref l0, .int l1, .int l2, .int l3, .int l4] [.int l3] rfl ?_
        refine rn_br (c := l3 = 0) rfl rfl decide_eq_true_iff (fun hb => ?_) (fun hb => ?_)
        · rw [if_pos hb] at h
          refine rn_steps 1 204 [.ref l0, .int l1, .int l2, .int l3, .int l4] [.int l4] rfl ?_
          refine rn_br (c := l4 = 0) rfl rfl decide_eq_true_iff (fun hb => ?_) (fun hb => ?_)
          · rw [if_pos hb] at h
            refine rn_steps 1 232 [.ref l0, .int l1, .int l2, .int l3, .int l4] [.ref l0] rfl ?_
            obtain ⟨u3, hu3, h⟩ := Option.bind_eq_some_iff.mp h
            obtain ⟨y2, hy2, h⟩ := Option.bind_eq_some_iff.mp h
            refine rn_callV [] rfl rfl ⟨rfl, rfl⟩ hu3 rfl rfl (e44 (d + 1) hy2) ?_
            refine rn_steps 0 235 [.ref l0, .int l1, .int l2, .int l3, .int l4] [.int y2.1] rfl ?_
            exact rn_retZ rfl rfl h
          · rw [if_neg hb] at h
            refine rn_steps 1 208 [.ref l0, .int l1, .int l2, .int l3, .int l4] [.ref l0] rfl ?_
            obtain ⟨r4, hr4, h⟩ := Option.bind_eq_some_iff.mp h
            refine rn_gR (c := 3) (f := 2) rfl rfl ⟨⟨rfl, rfl⟩, rfl⟩ hr4 ?_
            refine rn_steps 0 211 [.ref l0, .int l1, .int l2, .int l3, .int l4] [.ref r4] rfl ?_
            obtain ⟨v5, hv5, h⟩ := Option.bind_eq_some_iff.mp h
            refine rn_gI (c := 0) (f := 5) rfl rfl ⟨⟨rfl, rfl⟩, Or.inl rfl⟩ hv5 ?_
            refine rn_steps 1 215 [.ref l0, .int l1, .int l2, .int l3, .int l4] [.int 3, .int v5] rfl ?_
            refine rn_br (c := 3 ≤ v5) rfl rfl decide_eq_true_iff (fun hb => ?_) (fun hb => ?_)
            · rw [if_pos hb] at h
              refine rn_steps 2 227 [.ref l0, .int l1, .int l2, .int l3, .int l4] [.int 5, .ref l0] rfl ?_
              obtain ⟨u7, hu7, h⟩ := Option.bind_eq_some_iff.mp h
              obtain ⟨y6, hy6, h⟩ := Option.bind_eq_some_iff.mp h
              refine rn_callV [.int 5] rfl rfl ⟨rfl, rfl⟩ hu7 rfl rfl (e25 (d + 4) hy6) ?_
              refine rn_steps 0 230 [.ref l0, .int l1, .int l2, .int l3, .int l4] [.int y6.1] rfl ?_
              exact e36_230 d _ _ _ _ _ _ _ _ h
            · rw [if_neg hb] at h
              refine rn_steps 1 219 [.ref l0, .int l1, .int l2, .int l3, .int l4] [.ref l0] rfl ?_
              obtain ⟨u9, hu9, h⟩ := Option.bind_eq_some_iff.mp h
              obtain ⟨y8, hy8, h⟩ := Option.bind_eq_some_iff.mp h
              refine rn_callV [] rfl rfl ⟨rfl, rfl⟩ hu9 rfl rfl (e43 d hy8) ?_
              refine rn_steps 1 230 [.ref l0, .int l1, .int l2, .int l3, .int l4] [.int y8.1] rfl ?_
              exact e36_230 d _ _ _ _ _ _ _ _ h
        · rw [if_neg hb] at h
          refine rn_steps 1 178 [.ref l0, .int l1, .int l2, .int l3, .int l4] [.ref l0] rfl ?_
          obtain ⟨r10, hr10, h⟩ := Option.bind_eq_some_iff.mp h
          refine rn_gR (c := 3) (f := 2) rfl rfl ⟨⟨rfl, rfl⟩, rfl⟩ hr10 ?_
          refine rn_steps 0 181 [.ref l0, .int l1, .int l2, .int l3, .int l4] [.ref r10] rfl ?_
          obtain ⟨v11, hv11, h⟩ := Option.bind_eq_some_iff.mp h
          refine rn_gI (c := 0) (f := 4) rfl rfl ⟨⟨rfl, rfl⟩, Or.inl rfl⟩ hv11 ?_
          refine rn_steps 1 186 [.ref l0, .int l1, .int l2, .int l3, .int l4] [.int 12, .int v11] rfl ?_
          refine rn_br (c := 12 ≤ v11) rfl rfl decide_eq_true_iff (fun hb => ?_) (fun hb => ?_)
          · rw [if_pos hb] at h
            refine rn_steps 2 198 [.ref l0, .int l1, .int l2, .int l3, .int l4] [.int 5, .ref l0] rfl ?_
            obtain ⟨u13, hu13, h⟩ := Option.bind_eq_some_iff.mp h
            obtain ⟨y12, hy12, h⟩ := Option.bind_eq_some_iff.mp h
            refine rn_callV [.int 5] rfl rfl ⟨rfl, rfl⟩ hu13 rfl rfl (e25 (d + 4) hy12) ?_
            refine rn_steps 0 201 [.ref l0, .int l1, .int l2, .int l3, .int l4] [.int y12.1] rfl ?_
            exact e36_201 d _ _ _ _ _ _ _ _ h
          · rw [if_neg hb] at h
            refine rn_steps 1 190 [.ref l0, .int l1, .int l2, .int l3, .int l4] [.ref l0] rfl ?_
            obtain ⟨u15, hu15, h⟩ := Option.bind_eq_some_iff.mp h
            obtain ⟨y14, hy14, h⟩ := Option.bind_eq_some_iff.mp h
            refine rn_callV [] rfl rfl ⟨rfl, rfl⟩ hu15 rfl rfl (e42 d hy14) ?_
            refine rn_steps 1 201 [.ref l0, .int l1, .int l2, .int l3, .int l4] [.int y14.1] rfl ?_
            exact e36_201 d _ _ _ _ _ _ _ _ h
      · rw [if_neg hb] at h
        refine rn_steps 1 149 [.ref l0, .int l1, .int l2, .int l3, .int l4] [.ref l0] rfl ?_
        obtain ⟨r16, hr16, h⟩ := Option.bind_eq_some_iff.mp h
        refine rn_gR (c := 3) (f := 2) rfl rfl ⟨⟨rfl, rfl⟩, rfl⟩ hr16 ?_
        refine rn_steps 0 152 [.ref l0, .int l1, .int l2, .int l3, .int l4] [.ref r16] rfl ?_
        obtain ⟨v17, hv17, h⟩ := Option.bind_eq_some_iff.mp h
        refine rn_gI (c := 0) (f := 3) rfl rfl ⟨⟨rfl, rfl⟩, Or.inl rfl⟩ hv17 ?_
        refine rn_steps 1 157 [.ref l0, .int l1, .int l2, .int l3, .int l4] [.int 9, .int v17] rfl ?_
        refine rn_br (c := 9 ≤ v17) rfl rfl decide_eq_true_iff (fun hb => ?_) (fun hb => ?_)
        · rw [if_pos hb] at h
          refine rn_steps 2 169 [.ref l0, .int l1, .int l2, .int l3, .int l4] [.int 5, .ref l0] rfl ?_
          obtain ⟨u19, hu19, h⟩ := Option.bind_eq_some_iff.mp h
          obtain ⟨y18, hy18, h⟩ := Option.bind_eq_some_iff.mp h
          refine rn_callV [.int 5] rfl rfl ⟨rfl, rfl⟩ hu19 rfl rfl (e25 (d + 4) hy18) ?_
          refine rn_steps 0 172 [.ref l0, .int l1, .int l2, .int l3, .int l4] [.int y18.1] rfl ?_
          exact e36_172 d _ _ _ _ _ _ _ _ h
        · rw [if_neg hb] at h
          refine rn_steps 1 161 [.ref l0, .int l1, .int l2, .int l3, .int l4] [.ref l0] rfl ?_
          obtain ⟨u21, hu21, h⟩ := Option.bind_eq_some_iff.mp h
          obtain ⟨y20, hy20, h⟩ := Option.bind_eq_some_iff.mp h
          refine rn_callV [] rfl rfl ⟨rfl, rfl⟩ hu21 rfl rfl (e40 (d + 1) hy20) ?_
          refine rn_steps 1 172 [.ref l0, .int l1, .int l2, .int l3, .int l4] [.int y20.1] rfl ?_
          exact e36_172 d _ _ _ _ _ _ _ _ h
    · rw [if_neg hb] at h
      refine rn_steps 1 120 [.ref l0, .int l1, .int l2, .int l3, .int l4] [.ref l0] rfl ?_
      obtain ⟨r22, hr22, h⟩ := Option.bind_eq_some_iff.mp h
      refine rn_gR (c := 3) (f := 2) rfl rfl ⟨⟨rfl, rfl⟩, rfl⟩ hr22 ?_
      refine rn_steps 0 123 [.ref l0, .int l1, .int l2, .int l3, .int l4] [.ref r22] rfl ?_
      obtain ⟨v23, hv23, h⟩ := Option.bind_eq_some_iff.mp h
      refine rn_gI (c := 0) (f := 2) rfl rfl ⟨⟨rfl, rfl⟩, Or.inl rfl⟩ hv23 ?_
      refine rn_steps 1 128 [.ref l0, .int l1, .int l2, .int l3, .int l4] [.int 6, .int v23] rfl ?_
      refine rn_br (c := 6 ≤ v23) rfl rfl decide_eq_true_iff (fun hb => ?_) (fun hb => ?_)
      · rw [if_pos hb] at h
        refine rn_steps 2 140 [.ref l0, .int l1, .int l2, .int l3, .int l4] [.int 5, .ref l0] rfl ?_
        obtain ⟨u25, hu25, h⟩ := Option.bind_eq_some_iff.mp h
        obtain ⟨y24, hy24, h⟩ := Option.bind_eq_some_iff.mp h
        refine rn_callV [.int 5] rfl rfl ⟨rfl, rfl⟩ hu25 rfl rfl (e25 (d + 4) hy24) ?_
        refine rn_steps 0 143 [.ref l0, .int l1, .int l2, .int l3, .int l4] [.int y24.1] rfl ?_
        exact e36_143 d _ _ _ _ _ _ _ _ h
      · rw [if_neg hb] at h
        refine rn_steps 1 132 [.ref l0, .int l1, .int l2, .int l3, .int l4] [.ref l0] rfl ?_
        obtain ⟨u27, hu27, h⟩ := Option.bind_eq_some_iff.mp h
        obtain ⟨y26, hy26, h⟩ := Option.bind_eq_some_iff.mp h
        refine rn_callV [] rfl rfl ⟨rfl, rfl⟩ hu27 rfl rfl (e38 (d + 1) hy26) ?_
        refine rn_steps 1 143 [.ref l0, .int l1, .int l2, .int l3, .int l4] [.int y26.1] rfl ?_
        exact e36_143 d _ _ _ _ _ _ _ _ h
  · rw [if_pos (Decidable.not_not.mp hb)] at h
    refine rn_steps 2 111 [.ref l0, .int l1, .int l2, .int l3, .int l4] [.int 6, .ref l0] rfl ?_
    obtain ⟨u29, hu29, h⟩ := Option.bind_eq_some_iff.mp h
    obtain ⟨y28, hy28, h⟩ := Option.bind_eq_some_iff.mp h
    refine rn_callV [.int 6] rfl rfl ⟨rfl, rfl⟩ hu29 rfl rfl (e25 (d + 4) hy28) ?_
    refine rn_steps 0 114 [.ref l0, .int l1, .int l2, .int l3, .int l4] [.int y28.1] rfl ?_
    exact rn_retZ rfl rfl h
noncomputable def f36_34 (s0 : Int32) (σ : xM) : Option (Int32 × xM) :=
  rZ s0 σ
set_option maxRecDepth 20000 in
set_option maxHeartbeats 1000000 in
theorem e36_34 (d : Nat) (s0 : Int32) (x0 x1 x2 x3 x4 : Value) (σ : xM) (y : Int32 × xM) (h : f36_34 s0 σ = some y) : Rn (d + 5) 36 34 [x0, x1, x2, x3, x4] [.int s0] σ (some (.int y.1), y.2) := by
  unfold f36_34 at h
  exact rn_retZ rfl rfl h
/-- LastAsked$Reader.readLine()Z -/
noncomputable def f36 (l0 : Nat) (σ : xM) : Option (Int32 × xM) :=
  (cO σ l0 3).bind fun u21 =>
  (f26 l0 σ).bind fun y1 =>
  (cO y1.2 l0 3).bind fun u20 =>
  (f29 l0 1667855481 y1.2).bind fun y2 =>
  if y2.1 = 0 then
  (cO y2.2 l0 3).bind fun u14 =>
  (f29 l0 123581014175598 y2.2).bind fun y3 =>
  (cO y3.2 l0 3).bind fun u13 =>
  (f29 l0 1852137842 y3.2).bind fun y4 =>
  (cO y4.2 l0 3).bind fun u12 =>
  (f29 l0 418548245860 y4.2).bind fun y5 =>
  (cO y5.2 l0 3).bind fun u11 =>
  (f29 l0 448377483876 y5.2).bind fun y6 =>
  if y3.1 = 0 then
  if y4.1 = 0 then
  if y5.1 = 0 then
  if y6.1 = 0 then
  (cO y6.2 l0 3).bind fun u10 =>
  (f29 l0 2003136116 y6.2).bind fun y7 =>
  if y7.1 = 0 then
  (cO y7.2 l0 3).bind fun u9 =>
  (f25 l0 1 y7.2).bind fun y8 =>
  rZ y8.1 y8.2
  else
  f36_101 l0 y3.1 y4.1 y5.1 y6.1 y7.2
  else
  f36_101 l0 y3.1 y4.1 y5.1 y6.1 y6.2
  else
  f36_101 l0 y3.1 y4.1 y5.1 y6.1 y6.2
  else
  f36_101 l0 y3.1 y4.1 y5.1 y6.1 y6.2
  else
  f36_101 l0 y3.1 y4.1 y5.1 y6.1 y6.2
  else
  (gI y2.2 l0 3 11).bind fun v15 =>
  if v15 = 0 then
  (cO y2.2 l0 3).bind fun u17 =>
  (f37 l0 y2.2).bind fun y16 =>
  f36_34 y16.1 y16.2
  else
  (cO y2.2 l0 3).bind fun u19 =>
  (f25 l0 3 y2.2).bind fun y18 =>
  f36_34 y18.1 y18.2
set_option maxRecDepth 20000 in
set_option maxHeartbeats 1000000 in
theorem e36 (d : Nat) {l0 : Nat} {σ : xM} {y : Int32 × xM} (h : f36 l0 σ = some y) : Rn (d + 5) 36 0 [.ref l0, .retAddr 0, .retAddr 0, .retAddr 0, .retAddr 0] [] σ (some (.int y.1), y.2) := by
  unfold f36 at h
  refine rn_steps 1 1 [.ref l0, .retAddr 0, .retAddr 0, .retAddr 0, .retAddr 0] [.ref l0] rfl ?_
  obtain ⟨u21, hu21, h⟩ := Option.bind_eq_some_iff.mp h
  obtain ⟨y1, hy1, h⟩ := Option.bind_eq_some_iff.mp h
  refine rn_callV [] rfl rfl ⟨rfl, rfl⟩ hu21 rfl rfl (e26 (d + 3) hy1) ?_
  refine rn_steps 3 9 [.ref l0, .retAddr 0, .retAddr 0, .retAddr 0, .retAddr 0] [.long 1667855481, .ref l0] rfl ?_
  obtain ⟨u20, hu20, h⟩ := Option.bind_eq_some_iff.mp h
  obtain ⟨y2, hy2, h⟩ := Option.bind_eq_some_iff.mp h
  refine rn_callV [.long 1667855481] rfl rfl ⟨rfl, rfl⟩ hu20 rfl rfl (e29 (d + 4) hy2) ?_
  refine rn_steps 0 12 [.ref l0, .retAddr 0, .retAddr 0, .retAddr 0, .retAddr 0] [.int y2.1] rfl ?_
  refine rn_br (c := y2.1 = 0) rfl rfl decide_eq_true_iff (fun hb => ?_) (fun hb => ?_)
  · rw [if_pos hb] at h
    refine rn_steps 2 39 [.ref l0, .retAddr 0, .retAddr 0, .retAddr 0, .retAddr 0] [.long 123581014175598, .ref l0] rfl ?_
    obtain ⟨u14, hu14, h⟩ := Option.bind_eq_some_iff.mp h
    obtain ⟨y3, hy3, h⟩ := Option.bind_eq_some_iff.mp h
    refine rn_callV [.long 123581014175598] rfl rfl ⟨rfl, rfl⟩ hu14 rfl rfl (e29 (d + 4) hy3) ?_
    refine rn_steps 3 47 [.ref l0, .int y3.1, .retAddr 0, .retAddr 0, .retAddr 0] [.long 1852137842, .ref l0] rfl ?_
    obtain ⟨u13, hu13, h⟩ := Option.bind_eq_some_iff.mp h
    obtain ⟨y4, hy4, h⟩ := Option.bind_eq_some_iff.mp h
    refine rn_callV [.long 1852137842] rfl rfl ⟨rfl, rfl⟩ hu13 rfl rfl (e29 (d + 4) hy4) ?_
    refine rn_steps 3 55 [.ref l0, .int y3.1, .int y4.1, .retAddr 0, .retAddr 0] [.long 418548245860, .ref l0] rfl ?_
    obtain ⟨u12, hu12, h⟩ := Option.bind_eq_some_iff.mp h
    obtain ⟨y5, hy5, h⟩ := Option.bind_eq_some_iff.mp h
    refine rn_callV [.long 418548245860] rfl rfl ⟨rfl, rfl⟩ hu12 rfl rfl (e29 (d + 4) hy5) ?_
    refine rn_steps 3 63 [.ref l0, .int y3.1, .int y4.1, .int y5.1, .retAddr 0] [.long 448377483876, .ref l0] rfl ?_
    obtain ⟨u11, hu11, h⟩ := Option.bind_eq_some_iff.mp h
    obtain ⟨y6, hy6, h⟩ := Option.bind_eq_some_iff.mp h
    refine rn_callV [.long 448377483876] rfl rfl ⟨rfl, rfl⟩ hu11 rfl rfl (e29 (d + 4) hy6) ?_
    refine rn_steps 2 69 [.ref l0, .int y3.1, .int y4.1, .int y5.1, .int y6.1] [.int y3.1] rfl ?_
    refine rn_br (c := ¬ y3.1 = 0) rfl rfl decide_eq_true_iff (fun hb => ?_) (fun hb => ?_)
    · rw [if_neg hb] at h
      refine rn_steps 0 101 [.ref l0, .int y3.1, .int y4.1, .int y5.1, .int y6.1] [] rfl ?_
      exact e36_101 d _ _ _ _ _ _ _ h
    · rw [if_pos (Decidable.not_not.mp hb)] at h
      refine rn_steps 1 73 [.ref l0, .int y3.1, .int y4.1, .int y5.1, .int y6.1] [.int y4.1] rfl ?_
      refine rn_br (c := ¬ y4.1 = 0) rfl rfl decide_eq_true_iff (fun hb => ?_) (fun hb => ?_)
      · rw [if_neg hb] at h
        refine rn_steps 0 101 [.ref l0, .int y3.1, .int y4.1, .int y5.1, .int y6.1] [] rfl ?_
        exact e36_101 d _ _ _ _ _ _ _ h
      · rw [if_pos (Decidable.not_not.mp hb)] at h
        refine rn_steps 1 77 [.ref l0, .int y3.1, .int y4.1, .int y5.1, .int y6.1] [.int y5.1] rfl ?_
        refine rn_br (c := ¬ y5.1 = 0) rfl rfl decide_eq_true_iff (fun hb => ?_) (fun hb => ?_)
        · rw [if_neg hb] at h
          refine rn_steps 0 101 [.ref l0, .int y3.1, .int y4.1, .int y5.1, .int y6.1] [] rfl ?_
          exact e36_101 d _ _ _ _ _ _ _ h
        · rw [if_pos (Decidable.not_not.mp hb)] at h
          refine rn_steps 1 82 [.ref l0, .int y3.1, .int y4.1, .int y5.1, .int y6.1] [.int y6.1] rfl ?_
          refine rn_br (c := ¬ y6.1 = 0) rfl rfl decide_eq_true_iff (fun hb => ?_) (fun hb => ?_)
          · rw [if_neg hb] at h
            refine rn_steps 0 101 [.ref l0, .int y3.1, .int y4.1, .int y5.1, .int y6.1] [] rfl ?_
            exact e36_101 d _ _ _ _ _ _ _ h
          · rw [if_pos (Decidable.not_not.mp hb)] at h
            refine rn_steps 2 89 [.ref l0, .int y3.1, .int y4.1, .int y5.1, .int y6.1] [.long 2003136116, .ref l0] rfl ?_
            obtain ⟨u10, hu10, h⟩ := Option.bind_eq_some_iff.mp h
            obtain ⟨y7, hy7, h⟩ := Option.bind_eq_some_iff.mp h
            refine rn_callV [.long 2003136116] rfl rfl ⟨rfl, rfl⟩ hu10 rfl rfl (e29 (d + 4) hy7) ?_
            refine rn_steps 0 92 [.ref l0, .int y3.1, .int y4.1, .int y5.1, .int y6.1] [.int y7.1] rfl ?_
            refine rn_br (c := ¬ y7.1 = 0) rfl rfl decide_eq_true_iff (fun hb => ?_) (fun hb => ?_)
            · rw [if_neg hb] at h
              refine rn_steps 0 101 [.ref l0, .int y3.1, .int y4.1, .int y5.1, .int y6.1] [] rfl ?_
              exact e36_101 d _ _ _ _ _ _ _ h
            · rw [if_pos (Decidable.not_not.mp hb)] at h
              refine rn_steps 2 97 [.ref l0, .int y3.1, .int y4.1, .int y5.1, .int y6.1] [.int 1, .ref l0] rfl ?_
              obtain ⟨u9, hu9, h⟩ := Option.bind_eq_some_iff.mp h
              obtain ⟨y8, hy8, h⟩ := Option.bind_eq_some_iff.mp h
              refine rn_callV [.int 1] rfl rfl ⟨rfl, rfl⟩ hu9 rfl rfl (e25 (d + 4) hy8) ?_
              refine rn_steps 0 100 [.ref l0, .int y3.1, .int y4.1, .int y5.1, .int y6.1] [.int y8.1] rfl ?_
              exact rn_retZ rfl rfl h
  · rw [if_neg hb] at h
    refine rn_steps 1 16 [.ref l0, .retAddr 0, .retAddr 0, .retAddr 0, .retAddr 0] [.ref l0] rfl ?_
    obtain ⟨v15, hv15, h⟩ := Option.bind_eq_some_iff.mp h
    refine rn_gI (c := 3) (f := 11) rfl rfl ⟨⟨rfl, rfl⟩, Or.inr rfl⟩ hv15 ?_
    refine rn_steps 0 19 [.ref l0, .retAddr 0, .retAddr 0, .retAddr 0, .retAddr 0] [.int v15] rfl ?_
    refine rn_br (c := v15 = 0) rfl rfl decide_eq_true_iff (fun hb => ?_) (fun hb => ?_)
    · rw [if_pos hb] at h
      refine rn_steps 1 31 [.ref l0, .retAddr 0, .retAddr 0, .retAddr 0, .retAddr 0] [.ref l0] rfl ?_
      obtain ⟨u17, hu17, h⟩ := Option.bind_eq_some_iff.mp h
      obtain ⟨y16, hy16, h⟩ := Option.bind_eq_some_iff.mp h
      refine rn_callV [] rfl rfl ⟨rfl, rfl⟩ hu17 rfl rfl (e37 (d + 1) hy16) ?_
      refine rn_steps 0 34 [.ref l0, .retAddr 0, .retAddr 0, .retAddr 0, .retAddr 0] [.int y16.1] rfl ?_
      exact e36_34 d _ _ _ _ _ _ _ _ h
    · rw [if_neg hb] at h
      refine rn_steps 2 24 [.ref l0, .retAddr 0, .retAddr 0, .retAddr 0, .retAddr 0] [.int 3, .ref l0] rfl ?_
      obtain ⟨u19, hu19, h⟩ := Option.bind_eq_some_iff.mp h
      obtain ⟨y18, hy18, h⟩ := Option.bind_eq_some_iff.mp h
      refine rn_callV [.int 3] rfl rfl ⟨rfl, rfl⟩ hu19 rfl rfl (e25 (d + 4) hy18) ?_
      refine rn_steps 1 34 [.ref l0, .retAddr 0, .retAddr 0, .retAddr 0, .retAddr 0] [.int y18.1] rfl ?_
      exact e36_34 d _ _ _ _ _ _ _ _ h
noncomputable def f24_130 (l0 : Nat) (σ : xM) : Option (Int32 × xM) :=
  (gR σ l0 3 2).bind fun r1 =>
  (cO σ r1 0).bind fun u4 =>
  (f5 r1 σ).bind fun y2 =>
  (gI y2 l0 3 3).bind fun v3 =>
  some (v3, y2)
set_option maxRecDepth 20000 in
set_option maxHeartbeats 1000000 in
theorem e24_130 (d : Nat) (l0 : Nat) (x1 x2 x3 : Value) (σ : xM) (y : Int32 × xM) (h : f24_130 l0 σ = some y) : Rn (d + 6) 24 130 [.ref l0, x1, x2, x3] [] σ (some (.int y.1), y.2) := by
  unfold f24_130 at h
  refine rn_steps 1 131 [.ref l0, x1, x2, x3] [.ref l0] rfl ?_
  obtain ⟨r1, hr1, h⟩ := Option.bind_eq_some_iff.mp h
  refine rn_gR (c := 3) (f := 2) rfl rfl ⟨⟨rfl, rfl⟩, rfl⟩ hr1 ?_
  refine rn_steps 0 134 [.ref l0, x1, x2, x3] [.ref r1] rfl ?_
  obtain ⟨u4, hu4, h⟩ := Option.bind_eq_some_iff.mp h
  obtain ⟨y2, hy2, h⟩ := Option.bind_eq_some_iff.mp h
  refine rn_callV [] rfl rfl ⟨rfl, rfl⟩ hu4 rfl rfl (e5 (d + 4) hy2) ?_
  refine rn_steps 1 138 [.ref l0, x1, x2, x3] [.ref l0] rfl ?_
  obtain ⟨v3, hv3, h⟩ := Option.bind_eq_some_iff.mp h
  refine rn_gI (c := 3) (f := 3) rfl rfl ⟨⟨rfl, rfl⟩, Or.inl rfl⟩ hv3 ?_
  refine rn_steps 0 141 [.ref l0, x1, x2, x3] [.int v3] rfl ?_
  cases h
  exact rn_ret rfl rfl rfl
noncomputable def f24_106 (l0 : Nat) (σ : xM) : Option (Int32 × xM) :=
  (gI σ l0 3 3).bind fun v1 =>
  if v1 = 0 then
  (gR σ l0 3 2).bind fun r2 =>
  (gI σ r2 0 2).bind fun v3 =>
  if v3 = 0 then
  (cO σ l0 3).bind fun u5 =>
  (f25 l0 6 σ).bind fun y4 =>
  f24_130 l0 y4.2
  else
  f24_130 l0 σ
  else
  f24_130 l0 σ
set_option maxRecDepth 20000 in
set_option maxHeartbeats 1000000 in
theorem e24_106 (d : Nat) (l0 : Nat) (x1 x2 x3 : Value) (σ : xM) (y : Int32 × xM) (h : f24_106 l0 σ = some y) : Rn (d + 6) 24 106 [.ref l0, x1, x2, x3] [] σ (some (.int y.1), y.2) := by
  unfold f24_106 at h
  refine rn_steps 1 107 [.ref l0, x1, x2, x3] [.ref l0] rfl ?_
  obtain ⟨v1, hv1, h⟩ := Option.bind_eq_some_iff.mp h
  refine rn_gI (c := 3) (f := 3) rfl rfl ⟨⟨rfl, rfl⟩, Or.inl rfl⟩ hv1 ?_
  refine rn_steps 0 110 [.ref l0, x1, x2, x3] [.int v1] rfl ?_
  refine rn_br (c := ¬ v1 = 0) rfl rfl decide_eq_true_iff (fun hb => ?_) (fun hb => ?_)
  · rw [if_neg hb] at h
    refine rn_steps 0 130 [.ref l0, x1, x2, x3] [] rfl ?_
    exact e24_130 d _ _ _ _ _ _ h
  · rw [if_pos (Decidable.not_not.mp hb)] at h
    refine rn_steps 1 114 [.ref l0, x1, x2, x3] [.ref l0] rfl ?_
    obtain ⟨r2, hr2, h⟩ := Option.bind_eq_some_iff.mp h
    refine rn_gR (c := 3) (f := 2) rfl rfl ⟨⟨rfl, rfl⟩, rfl⟩ hr2 ?_
    refine rn_steps 0 117 [.ref l0, x1, x2, x3] [.ref r2] rfl ?_
    obtain ⟨v3, hv3, h⟩ := Option.bind_eq_some_iff.mp h
    refine rn_gI (c := 0) (f := 2) rfl rfl ⟨⟨rfl, rfl⟩, Or.inl rfl⟩ hv3 ?_
    refine rn_steps 0 120 [.ref l0, x1, x2, x3] [.int v3] rfl ?_
    refine rn_br (c := ¬ v3 = 0) rfl rfl decide_eq_true_iff (fun hb => ?_) (fun hb => ?_)
    · rw [if_neg hb] at h
      refine rn_steps 0 130 [.ref l0, x1, x2, x3] [] rfl ?_
      exact e24_130 d _ _ _ _ _ _ h
    · rw [if_pos (Decidable.not_not.mp hb)] at h
      refine rn_steps 2 126 [.ref l0, x1, x2, x3] [.int 6, .ref l0] rfl ?_
      obtain ⟨u5, hu5, h⟩ := Option.bind_eq_some_iff.mp h
      obtain ⟨y4, hy4, h⟩ := Option.bind_eq_some_iff.mp h
      refine rn_callV [.int 6] rfl rfl ⟨rfl, rfl⟩ hu5 rfl rfl (e25 (d + 5) hy4) ?_
      refine rn_steps 1 130 [.ref l0, x1, x2, x3] [] rfl ?_
      exact e24_130 d _ _ _ _ _ _ h
noncomputable def f24_86 (l0 : Nat) (σ : xM) : Option (Int32 × xM) :=
  (gI σ l0 3 3).bind fun v1 =>
  if v1 = 0 then
  (gI σ l0 3 6).bind fun v2 =>
  if v2 = 0 then
  f24_106 l0 σ
  else
  (cO σ l0 3).bind fun u4 =>
  (f25 l0 1 σ).bind fun y3 =>
  f24_106 l0 y3.2
  else
  f24_106 l0 σ
set_option maxRecDepth 20000 in
set_option maxHeartbeats 1000000 in
theorem e24_86 (d : Nat) (l0 : Nat) (x1 x2 x3 : Value) (σ : xM) (y : Int32 × xM) (h : f24_86 l0 σ = some y) : Rn (d + 6) 24 86 [.ref l0, x1, x2, x3] [] σ (some (.int y.1), y.2) := by
  unfold f24_86 at h
  refine rn_steps 1 87 [.ref l0, x1, x2, x3] [.ref l0] rfl ?_
  obtain ⟨v1, hv1, h⟩ := Option.bind_eq_some_iff.mp h
  refine rn_gI (c := 3) (f := 3) rfl rfl ⟨⟨rfl, rfl⟩, Or.inl rfl⟩ hv1 ?_
  refine rn_steps 0 90 [.ref l0, x1, x2, x3] [.int v1] rfl ?_
  refine rn_br (c := ¬ v1 = 0) rfl rfl decide_eq_true_iff (fun hb => ?_) (fun hb => ?_)
  · rw [if_neg hb] at h
    refine rn_steps 0 106 [.ref l0, x1, x2, x3] [] rfl ?_
    exact e24_106 d _ _ _ _ _ _ h
  · rw [if_pos (Decidable.not_not.mp hb)] at h
    refine rn_steps 1 94 [.ref l0, x1, x2, x3] [.ref l0] rfl ?_
    obtain ⟨v2, hv2, h⟩ := Option.bind_eq_some_iff.mp h
    refine rn_gI (c := 3) (f := 6) rfl rfl ⟨⟨rfl, rfl⟩, Or.inl rfl⟩ hv2 ?_
    refine rn_steps 0 97 [.ref l0, x1, x2, x3] [.int v2] rfl ?_
    refine rn_br (c := v2 = 0) rfl rfl decide_eq_true_iff (fun hb => ?_) (fun hb => ?_)
    · rw [if_pos hb] at h
      refine rn_steps 0 106 [.ref l0, x1, x2, x3] [] rfl ?_
      exact e24_106 d _ _ _ _ _ _ h
    · rw [if_neg hb] at h
      refine rn_steps 2 102 [.ref l0, x1, x2, x3] [.int 1, .ref l0] rfl ?_
      obtain ⟨u4, hu4, h⟩ := Option.bind_eq_some_iff.mp h
      obtain ⟨y3, hy3, h⟩ := Option.bind_eq_some_iff.mp h
      refine rn_callV [.int 1] rfl rfl ⟨rfl, rfl⟩ hu4 rfl rfl (e25 (d + 5) hy3) ?_
      refine rn_steps 1 106 [.ref l0, x1, x2, x3] [] rfl ?_
      exact e24_106 d _ _ _ _ _ _ h
noncomputable def f24_79 (K48 : Nat → Int32 → Int32 → xM → Option (Int32 × xM)) (l0 : Nat) (l3 : Int32) (s0 : Int32) (σ : xM) : Option (Int32 × xM) :=
  K48 l0 s0 (l3 + 1) σ
set_option maxRecDepth 20000 in
set_option maxHeartbeats 1000000 in
theorem e24_79 (d : Nat) (K48 : Nat → Int32 → Int32 → xM → Option (Int32 × xM)) (hK48 : ∀ (l0 : Nat) (l2 : Int32) (l3 : Int32) (x1 : Value) (σ : xM) (y : Int32 × xM), K48 l0 l2 l3 σ = some y → Rn (d + 6) 24 48 [.ref l0, x1, .int l2, .int l3] [] σ (some (.int y.1), y.2)) (l0 : Nat) (l3 : Int32) (s0 : Int32) (x1 x2 : Value) (σ : xM) (y : Int32 × xM) (h : f24_79 K48 l0 l3 s0 σ = some y) : Rn (d + 6) 24 79 [.ref l0, x1, x2, .int l3] [.int s0] σ (some (.int y.1), y.2) := by
  unfold f24_79 at h
  refine rn_steps 3 48 [.ref l0, x1, .int s0, .int (l3 + 1)] [] rfl ?_
  exact hK48 _ _ _ _ _ _ h
noncomputable def f24_78 (K48 : Nat → Int32 → Int32 → xM → Option (Int32 × xM)) (l0 : Nat) (l3 : Int32) (σ : xM) : Option (Int32 × xM) :=
  f24_79 K48 l0 l3 0 σ
set_option maxRecDepth 20000 in
set_option maxHeartbeats 1000000 in
theorem e24_78 (d : Nat) (K48 : Nat → Int32 → Int32 → xM → Option (Int32 × xM)) (hK48 : ∀ (l0 : Nat) (l2 : Int32) (l3 : Int32) (x1 : Value) (σ : xM) (y : Int32 × xM), K48 l0 l2 l3 σ = some y → Rn (d + 6) 24 48 [.ref l0, x1, .int l2, .int l3] [] σ (some (.int y.1), y.2)) (l0 : Nat) (l3 : Int32) (x1 x2 : Value) (σ : xM) (y : Int32 × xM) (h : f24_78 K48 l0 l3 σ = some y) : Rn (d + 6) 24 78 [.ref l0, x1, x2, .int l3] [] σ (some (.int y.1), y.2) := by
  unfold f24_78 at h
  refine rn_steps 1 79 [.ref l0, x1, x2, .int l3] [.int 0] rfl ?_
  exact e24_79 d _ hK48 _ _ _ _ _ _ _ h
noncomputable def f24_48 : Nat → Nat → Int32 → Int32 → xM → Option (Int32 × xM)
  | 0, _, _, _, _ => none
  | n + 1, l0, l2, l3, σ =>
    if 900 ≤ l3 then
    f24_86 l0 σ
    else
    if l2 = 0 then
    f24_86 l0 σ
    else
    (cO σ l0 3).bind fun u4 =>
    (f36 l0 σ).bind fun y1 =>
    if y1.1 = 0 then
    f24_78 (f24_48 n) l0 l3 y1.2
    else
    (cO y1.2 l0 3).bind fun u3 =>
    (f26 l0 y1.2).bind fun y2 =>
    if y2.1 = 3 then
    f24_79 (f24_48 n) l0 l3 1 y2.2
    else
    f24_78 (f24_48 n) l0 l3 y2.2
set_option maxRecDepth 20000 in
set_option maxHeartbeats 1000000 in
theorem e24_48 (d : Nat) : ∀ (n : Nat) (l0 : Nat) (l2 : Int32) (l3 : Int32) (x1 : Value) (σ : xM) (y : Int32 × xM), f24_48 n l0 l2 l3 σ = some y → Rn (d + 6) 24 48 [.ref l0, x1, .int l2, .int l3] [] σ (some (.int y.1), y.2) := by
  intro n
  induction n with
  | zero => intro l0 l2 l3 x1 σ y h; cases h
  | succ n ih =>
    intro l0 l2 l3 x1 σ y h
    unfold f24_48 at h
    refine rn_steps 2 52 [.ref l0, x1, .int l2, .int l3] [.int 900, .int l3] rfl ?_
    refine rn_br (c := 900 ≤ l3) rfl rfl decide_eq_true_iff (fun hb => ?_) (fun hb => ?_)
    · rw [if_pos hb] at h
      refine rn_steps 0 86 [.ref l0, x1, .int l2, .int l3] [] rfl ?_
      exact e24_86 d _ _ _ _ _ _ h
    · rw [if_neg hb] at h
      refine rn_steps 1 56 [.ref l0, x1, .int l2, .int l3] [.int l2] rfl ?_
      refine rn_br (c := l2 = 0) rfl rfl decide_eq_true_iff (fun hb => ?_) (fun hb => ?_)
      · rw [if_pos hb] at h
        refine rn_steps 0 86 [.ref l0, x1, .int l2, .int l3] [] rfl ?_
        exact e24_86 d _ _ _ _ _ _ h
      · rw [if_neg hb] at h
        refine rn_steps 1 60 [.ref l0, x1, .int l2, .int l3] [.ref l0] rfl ?_
        obtain ⟨u4, hu4, h⟩ := Option.bind_eq_some_iff.mp h
        obtain ⟨y1, hy1, h⟩ := Option.bind_eq_some_iff.mp h
        refine rn_callV [] rfl rfl ⟨rfl, rfl⟩ hu4 rfl rfl (e36 d hy1) ?_
        refine rn_steps 0 63 [.ref l0, x1, .int l2, .int l3] [.int y1.1] rfl ?_
        refine rn_br (c := y1.1 = 0) rfl rfl decide_eq_true_iff (fun hb => ?_) (fun hb => ?_)
        · rw [if_pos hb] at h
          refine rn_steps 0 78 [.ref l0, x1, .int l2, .int l3] [] rfl ?_
          exact e24_78 d _ ih _ _ _ _ _ _ h
        · rw [if_neg hb] at h
          refine rn_steps 1 67 [.ref l0, x1, .int l2, .int l3] [.ref l0] rfl ?_
          obtain ⟨u3, hu3, h⟩ := Option.bind_eq_some_iff.mp h
          obtain ⟨y2, hy2, h⟩ := Option.bind_eq_some_iff.mp h
          refine rn_callV [] rfl rfl ⟨rfl, rfl⟩ hu3 rfl rfl (e26 (d + 4) hy2) ?_
          refine rn_steps 1 71 [.ref l0, x1, .int l2, .int l3] [.int 3, .int y2.1] rfl ?_
          refine rn_br (c := ¬ y2.1 = 3) rfl rfl decide_eq_true_iff (fun hb => ?_) (fun hb => ?_)
          · rw [if_neg hb] at h
            refine rn_steps 0 78 [.ref l0, x1, .int l2, .int l3] [] rfl ?_
            exact e24_78 d _ ih _ _ _ _ _ _ h
          · rw [if_pos (Decidable.not_not.mp hb)] at h
            refine rn_steps 2 79 [.ref l0, x1, .int l2, .int l3] [.int 1] rfl ?_
            exact e24_79 d _ ih _ _ _ _ _ _ _ h
/-- LastAsked$Reader.readCity(I)I -/
noncomputable def f24 (l0 : Nat) (l1 : Int32) (σ : xM) : Option (Int32 × xM) :=
  (gI σ l0 3 0).bind fun v1 =>
  (pI σ l0 3 5 (if v1 < l1 then v1 else l1)).bind fun σ2 =>
  (pI σ2 l0 3 0 0).bind fun σ3 =>
  (gR σ3 l0 3 2).bind fun r4 =>
  (cO σ3 r4 0).bind fun u10 =>
  (f1 r4 σ3).bind fun y5 =>
  (pI y5 l0 3 8 0).bind fun σ6 =>
  (pI σ6 l0 3 3 0).bind fun σ7 =>
  (pI σ7 l0 3 1 0).bind fun σ8 =>
  (pZ σ8 l0 3 11 0).bind fun σ9 =>
  f24_48 1100 l0 1 0 σ9
set_option maxRecDepth 20000 in
set_option maxHeartbeats 1000000 in
theorem e24 (d : Nat) {l0 : Nat} {l1 : Int32} {σ : xM} {y : Int32 × xM} (h : f24 l0 l1 σ = some y) : Rn (d + 6) 24 0 [.ref l0, .int l1, .retAddr 0, .retAddr 0] [] σ (some (.int y.1), y.2) := by
  unfold f24 at h
  refine rn_steps 3 3 [.ref l0, .int l1, .retAddr 0, .retAddr 0] [.ref l0, .int l1, .ref l0] rfl ?_
  obtain ⟨v1, hv1, h⟩ := Option.bind_eq_some_iff.mp h
  refine rn_gI (c := 3) (f := 0) rfl rfl ⟨⟨rfl, rfl⟩, Or.inl rfl⟩ hv1 ?_
  refine rn_steps 1 9 [.ref l0, .int l1, .retAddr 0, .retAddr 0] [.int (if v1 < l1 then v1 else l1), .ref l0] rfl ?_
  obtain ⟨σ2, hσ2, h⟩ := Option.bind_eq_some_iff.mp h
  refine rn_pI (c := 3) (f := 5) rfl rfl ⟨⟨rfl, rfl⟩, rfl⟩ hσ2 ?_
  refine rn_steps 2 14 [.ref l0, .int l1, .retAddr 0, .retAddr 0] [.int 0, .ref l0] rfl ?_
  obtain ⟨σ3, hσ3, h⟩ := Option.bind_eq_some_iff.mp h
  refine rn_pI (c := 3) (f := 0) rfl rfl ⟨⟨rfl, rfl⟩, rfl⟩ hσ3 ?_
  refine rn_steps 1 18 [.ref l0, .int l1, .retAddr 0, .retAddr 0] [.ref l0] rfl ?_
  obtain ⟨r4, hr4, h⟩ := Option.bind_eq_some_iff.mp h
  refine rn_gR (c := 3) (f := 2) rfl rfl ⟨⟨rfl, rfl⟩, rfl⟩ hr4 ?_
  refine rn_steps 0 21 [.ref l0, .int l1, .retAddr 0, .retAddr 0] [.ref r4] rfl ?_
  obtain ⟨u10, hu10, h⟩ := Option.bind_eq_some_iff.mp h
  obtain ⟨y5, hy5, h⟩ := Option.bind_eq_some_iff.mp h
  refine rn_callV [] rfl rfl ⟨rfl, rfl⟩ hu10 rfl rfl (e1 (d + 5) hy5) ?_
  refine rn_steps 2 26 [.ref l0, .int l1, .retAddr 0, .retAddr 0] [.int 0, .ref l0] rfl ?_
  obtain ⟨σ6, hσ6, h⟩ := Option.bind_eq_some_iff.mp h
  refine rn_pI (c := 3) (f := 8) rfl rfl ⟨⟨rfl, rfl⟩, rfl⟩ hσ6 ?_
  refine rn_steps 2 31 [.ref l0, .int l1, .retAddr 0, .retAddr 0] [.int 0, .ref l0] rfl ?_
  obtain ⟨σ7, hσ7, h⟩ := Option.bind_eq_some_iff.mp h
  refine rn_pI (c := 3) (f := 3) rfl rfl ⟨⟨rfl, rfl⟩, rfl⟩ hσ7 ?_
  refine rn_steps 2 36 [.ref l0, .int l1, .retAddr 0, .retAddr 0] [.int 0, .ref l0] rfl ?_
  obtain ⟨σ8, hσ8, h⟩ := Option.bind_eq_some_iff.mp h
  refine rn_pI (c := 3) (f := 1) rfl rfl ⟨⟨rfl, rfl⟩, rfl⟩ hσ8 ?_
  refine rn_steps 2 41 [.ref l0, .int l1, .retAddr 0, .retAddr 0] [.int 0, .ref l0] rfl ?_
  obtain ⟨σ9, hσ9, h⟩ := Option.bind_eq_some_iff.mp h
  refine rn_pZ (c := 3) (f := 11) rfl rfl ⟨⟨rfl, rfl⟩, rfl⟩ hσ9 ?_
  refine rn_steps 4 48 [.ref l0, .int l1, .int 1, .int 0] [] rfl ?_
  exact e24_48 d 1100 _ _ _ _ _ _ h
/-- LastAsked$State.begin(LLastAsked$City;)V -/
noncomputable def f46 (l0 : Nat) (l1 : Nat) (σ : xM) : Option xM :=
  (gI σ l1 0 0).bind fun v1 =>
  (pI σ l0 4 0 v1).bind fun σ2 =>
  (pI σ2 l0 4 1 0).bind fun σ3 =>
  (pI σ3 l0 4 2 0).bind fun σ4 =>
  (pI σ4 l0 4 3 0).bind fun σ5 =>
  (cO σ5 l1 0).bind fun u14 =>
  (f3 l1 σ5).bind fun y6 =>
  (pI y6.2 l0 4 4 y6.1).bind fun σ7 =>
  (gR σ7 l1 0 8).bind fun r8 =>
  (gR σ7 l0 4 5).bind fun r9 =>
  (cp σ7 r8 0 r9 0 6).bind fun σ10 =>
  (gR σ10 l1 0 12).bind fun r11 =>
  (gR σ10 l0 4 6).bind fun r12 =>
  (cp σ10 r11 0 r12 0 36).bind fun σ13 =>
  some σ13
set_option maxRecDepth 20000 in
set_option maxHeartbeats 1000000 in
theorem e46 (d : Nat) {l0 : Nat} {l1 : Nat} {σ : xM} {y : xM} (h : f46 l0 l1 σ = some y) : Rn (d + 1) 46 0 [.ref l0, .ref l1] [] σ (none, y) := by
  unfold f46 at h
  refine rn_steps 2 2 [.ref l0, .ref l1] [.ref l1, .ref l0] rfl ?_
  obtain ⟨v1, hv1, h⟩ := Option.bind_eq_some_iff.mp h
  refine rn_gI (c := 0) (f := 0) rfl rfl ⟨⟨rfl, rfl⟩, Or.inl rfl⟩ hv1 ?_
  refine rn_steps 0 5 [.ref l0, .ref l1] [.int v1, .ref l0] rfl ?_
  obtain ⟨σ2, hσ2, h⟩ := Option.bind_eq_some_iff.mp h
  refine rn_pI (c := 4) (f := 0) rfl rfl ⟨⟨rfl, rfl⟩, rfl⟩ hσ2 ?_
  refine rn_steps 2 10 [.ref l0, .ref l1] [.int 0, .ref l0] rfl ?_
  obtain ⟨σ3, hσ3, h⟩ := Option.bind_eq_some_iff.mp h
  refine rn_pI (c := 4) (f := 1) rfl rfl ⟨⟨rfl, rfl⟩, rfl⟩ hσ3 ?_
  refine rn_steps 2 15 [.ref l0, .ref l1] [.int 0, .ref l0] rfl ?_
  obtain ⟨σ4, hσ4, h⟩ := Option.bind_eq_some_iff.mp h
  refine rn_pI (c := 4) (f := 2) rfl rfl ⟨⟨rfl, rfl⟩, rfl⟩ hσ4 ?_
  refine rn_steps 2 20 [.ref l0, .ref l1] [.int 0, .ref l0] rfl ?_
  obtain ⟨σ5, hσ5, h⟩ := Option.bind_eq_some_iff.mp h
  refine rn_pI (c := 4) (f := 3) rfl rfl ⟨⟨rfl, rfl⟩, rfl⟩ hσ5 ?_
  refine rn_steps 2 25 [.ref l0, .ref l1] [.ref l1, .ref l0] rfl ?_
  obtain ⟨u14, hu14, h⟩ := Option.bind_eq_some_iff.mp h
  obtain ⟨y6, hy6, h⟩ := Option.bind_eq_some_iff.mp h
  refine rn_callV [] rfl rfl ⟨rfl, rfl⟩ hu14 rfl rfl (e3 d hy6) ?_
  refine rn_steps 0 28 [.ref l0, .ref l1] [.int y6.1, .ref l0] rfl ?_
  obtain ⟨σ7, hσ7, h⟩ := Option.bind_eq_some_iff.mp h
  refine rn_pI (c := 4) (f := 4) rfl rfl ⟨⟨rfl, rfl⟩, rfl⟩ hσ7 ?_
  refine rn_steps 1 32 [.ref l0, .ref l1] [.ref l1] rfl ?_
  obtain ⟨r8, hr8, h⟩ := Option.bind_eq_some_iff.mp h
  refine rn_gR (c := 0) (f := 8) rfl rfl ⟨⟨rfl, rfl⟩, rfl⟩ hr8 ?_
  refine rn_steps 2 37 [.ref l0, .ref l1] [.ref l0, .int 0, .ref r8] rfl ?_
  obtain ⟨r9, hr9, h⟩ := Option.bind_eq_some_iff.mp h
  refine rn_gR (c := 4) (f := 5) rfl rfl ⟨⟨rfl, rfl⟩, rfl⟩ hr9 ?_
  refine rn_steps 2 43 [.ref l0, .ref l1] [.int 6, .int 0, .ref r9, .int 0, .ref r8] rfl ?_
  obtain ⟨σ10, hσ10, h⟩ := Option.bind_eq_some_iff.mp h
  refine rn_cp rfl rfl hσ10 ?_
  refine rn_steps 1 47 [.ref l0, .ref l1] [.ref l1] rfl ?_
  obtain ⟨r11, hr11, h⟩ := Option.bind_eq_some_iff.mp h
  refine rn_gR (c := 0) (f := 12) rfl rfl ⟨⟨rfl, rfl⟩, rfl⟩ hr11 ?_
  refine rn_steps 2 52 [.ref l0, .ref l1] [.ref l0, .int 0, .ref r11] rfl ?_
  obtain ⟨r12, hr12, h⟩ := Option.bind_eq_some_iff.mp h
  refine rn_gR (c := 4) (f := 6) rfl rfl ⟨⟨rfl, rfl⟩, rfl⟩ hr12 ?_
  refine rn_steps 2 58 [.ref l0, .ref l1] [.int 36, .int 0, .ref r12, .int 0, .ref r11] rfl ?_
  obtain ⟨σ13, hσ13, h⟩ := Option.bind_eq_some_iff.mp h
  refine rn_cp rfl rfl hσ13 ?_
  refine rn_steps 0 61 [.ref l0, .ref l1] [] rfl ?_
  cases h
  exact rn_ret rfl rfl rfl
/-- LastAsked$State.alive(I)Z -/
noncomputable def f48 (l0 : Nat) (l1 : Int32) (σ : xM) : Option (Int32 × xM) :=
  (gI σ l0 4 4).bind fun v1 =>
  (f124 v1 l1 σ).bind fun y2 =>
  rZ y2.1 y2.2
set_option maxRecDepth 20000 in
set_option maxHeartbeats 1000000 in
theorem e48 (d : Nat) {l0 : Nat} {l1 : Int32} {σ : xM} {y : Int32 × xM} (h : f48 l0 l1 σ = some y) : Rn (d + 1) 48 0 [.ref l0, .int l1] [] σ (some (.int y.1), y.2) := by
  unfold f48 at h
  refine rn_steps 1 1 [.ref l0, .int l1] [.ref l0] rfl ?_
  obtain ⟨v1, hv1, h⟩ := Option.bind_eq_some_iff.mp h
  refine rn_gI (c := 4) (f := 4) rfl rfl ⟨⟨rfl, rfl⟩, Or.inl rfl⟩ hv1 ?_
  refine rn_steps 1 5 [.ref l0, .int l1] [.int l1, .int v1] rfl ?_
  obtain ⟨y2, hy2, h⟩ := Option.bind_eq_some_iff.mp h
  refine rn_callS [.int v1, .int l1] rfl rfl rfl ⟨rfl, rfl, rfl⟩ rfl rfl (e124 d hy2) ?_
  refine rn_steps 0 8 [.ref l0, .int l1] [.int y2.1] rfl ?_
  exact rn_retZ rfl rfl h
/-- LastAsked$State.give(III)I -/
noncomputable def f49 (l0 : Nat) (l1 : Int32) (l2 : Int32) (l3 : Int32) (σ : xM) : Option (Int32 × xM) :=
  (gI σ l0 4 0).bind fun v1 =>
  (pI σ l0 4 0 (v1 + 1)).bind fun σ2 =>
  (gR σ2 l0 4 6).bind fun r3 =>
  (f125 l1 l2 σ2).bind fun y4 =>
  (gI y4.2 l0 4 0).bind fun v5 =>
  (tI y4.2 r3 y4.1 v5).bind fun σ6 =>
  (gR σ6 l0 4 5).bind fun r7 =>
  (aI σ6 r7 l2).bind fun v8 =>
  (gR σ6 l0 4 5).bind fun r9 =>
  (aI σ6 r9 l2).bind fun v10 =>
  (tI σ6 r9 l2 (v10 - (if v8 < l3 then v8 else l3))).bind fun σ11 =>
  (gR σ11 l0 4 5).bind fun r12 =>
  (aI σ11 r12 l1).bind fun v13 =>
  (tI σ11 r12 l1 (v13 + (if v8 < l3 then v8 else l3))).bind fun σ14 =>
  some ((if v8 < l3 then v8 else l3), σ14)
set_option maxRecDepth 20000 in
set_option maxHeartbeats 1000000 in
theorem e49 (d : Nat) {l0 : Nat} {l1 : Int32} {l2 : Int32} {l3 : Int32} {σ : xM} {y : Int32 × xM} (h : f49 l0 l1 l2 l3 σ = some y) : Rn (d + 1) 49 0 [.ref l0, .int l1, .int l2, .int l3, .retAddr 0] [] σ (some (.int y.1), y.2) := by
  unfold f49 at h
  refine rn_steps 2 2 [.ref l0, .int l1, .int l2, .int l3, .retAddr 0] [.ref l0, .ref l0] rfl ?_
  obtain ⟨v1, hv1, h⟩ := Option.bind_eq_some_iff.mp h
  refine rn_gI (c := 4) (f := 0) rfl rfl ⟨⟨rfl, rfl⟩, Or.inl rfl⟩ hv1 ?_
  refine rn_steps 2 7 [.ref l0, .int l1, .int l2, .int l3, .retAddr 0] [.int (v1 + 1), .ref l0] rfl ?_
  obtain ⟨σ2, hσ2, h⟩ := Option.bind_eq_some_iff.mp h
  refine rn_pI (c := 4) (f := 0) rfl rfl ⟨⟨rfl, rfl⟩, rfl⟩ hσ2 ?_
  refine rn_steps 1 11 [.ref l0, .int l1, .int l2, .int l3, .retAddr 0] [.ref l0] rfl ?_
  obtain ⟨r3, hr3, h⟩ := Option.bind_eq_some_iff.mp h
  refine rn_gR (c := 4) (f := 6) rfl rfl ⟨⟨rfl, rfl⟩, rfl⟩ hr3 ?_
  refine rn_steps 2 16 [.ref l0, .int l1, .int l2, .int l3, .retAddr 0] [.int l2, .int l1, .ref r3] rfl ?_
  obtain ⟨y4, hy4, h⟩ := Option.bind_eq_some_iff.mp h
  refine rn_callS [.int l1, .int l2] rfl rfl rfl ⟨rfl, rfl, rfl⟩ rfl rfl (e125 d hy4) ?_
  refine rn_steps 1 20 [.ref l0, .int l1, .int l2, .int l3, .retAddr 0] [.ref l0, .int y4.1, .ref r3] rfl ?_
  obtain ⟨v5, hv5, h⟩ := Option.bind_eq_some_iff.mp h
  refine rn_gI (c := 4) (f := 0) rfl rfl ⟨⟨rfl, rfl⟩, Or.inl rfl⟩ hv5 ?_
  refine rn_steps 0 23 [.ref l0, .int l1, .int l2, .int l3, .retAddr 0] [.int v5, .int y4.1, .ref r3] rfl ?_
  obtain ⟨σ6, hσ6, h⟩ := Option.bind_eq_some_iff.mp h
  refine rn_tI rfl hσ6 ?_
  refine rn_steps 2 26 [.ref l0, .int l1, .int l2, .int l3, .retAddr 0] [.ref l0, .int l3] rfl ?_
  obtain ⟨r7, hr7, h⟩ := Option.bind_eq_some_iff.mp h
  refine rn_gR (c := 4) (f := 5) rfl rfl ⟨⟨rfl, rfl⟩, rfl⟩ hr7 ?_
  refine rn_steps 1 30 [.ref l0, .int l1, .int l2, .int l3, .retAddr 0] [.int l2, .ref r7, .int l3] rfl ?_
  obtain ⟨v8, hv8, h⟩ := Option.bind_eq_some_iff.mp h
  refine rn_aI rfl hv8 ?_
  refine rn_steps 3 37 [.ref l0, .int l1, .int l2, .int l3, .int (if v8 < l3 then v8 else l3)] [.ref l0] rfl ?_
  obtain ⟨r9, hr9, h⟩ := Option.bind_eq_some_iff.mp h
  refine rn_gR (c := 4) (f := 5) rfl rfl ⟨⟨rfl, rfl⟩, rfl⟩ hr9 ?_
  refine rn_steps 2 42 [.ref l0, .int l1, .int l2, .int l3, .int (if v8 < l3 then v8 else l3)] [.int l2, .ref r9, .int l2, .ref r9] rfl ?_
  obtain ⟨v10, hv10, h⟩ := Option.bind_eq_some_iff.mp h
  refine rn_aI rfl hv10 ?_
  refine rn_steps 2 46 [.ref l0, .int l1, .int l2, .int l3, .int (if v8 < l3 then v8 else l3)] [.int (v10 - (if v8 < l3 then v8 else l3)), .int l2, .ref r9] rfl ?_
  obtain ⟨σ11, hσ11, h⟩ := Option.bind_eq_some_iff.mp h
  refine rn_tI rfl hσ11 ?_
  refine rn_steps 1 48 [.ref l0, .int l1, .int l2, .int l3, .int (if v8 < l3 then v8 else l3)] [.ref l0] rfl ?_
  obtain ⟨r12, hr12, h⟩ := Option.bind_eq_some_iff.mp h
  refine rn_gR (c := 4) (f := 5) rfl rfl ⟨⟨rfl, rfl⟩, rfl⟩ hr12 ?_
  refine rn_steps 2 53 [.ref l0, .int l1, .int l2, .int l3, .int (if v8 < l3 then v8 else l3)] [.int l1, .ref r12, .int l1, .ref r12] rfl ?_
  obtain ⟨v13, hv13, h⟩ := Option.bind_eq_some_iff.mp h
  refine rn_aI rfl hv13 ?_
  refine rn_steps 2 57 [.ref l0, .int l1, .int l2, .int l3, .int (if v8 < l3 then v8 else l3)] [.int (v13 + (if v8 < l3 then v8 else l3)), .int l1, .ref r12] rfl ?_
  obtain ⟨σ14, hσ14, h⟩ := Option.bind_eq_some_iff.mp h
  refine rn_tI rfl hσ14 ?_
  refine rn_steps 1 60 [.ref l0, .int l1, .int l2, .int l3, .int (if v8 < l3 then v8 else l3)] [.int (if v8 < l3 then v8 else l3)] rfl ?_
  cases h
  exact rn_ret rfl rfl rfl
/-- LastAsked$State.draw()I -/
noncomputable def f50 (l0 : Nat) (σ : xM) : Option (Int32 × xM) :=
  (gI σ l0 4 1).bind fun v1 =>
  (rI ((75 * v1) + 74) 65537).bind fun v2 =>
  (pI σ l0 4 1 v2).bind fun σ3 =>
  (gI σ3 l0 4 1).bind fun v4 =>
  some (v4, σ3)
set_option maxRecDepth 20000 in
set_option maxHeartbeats 1000000 in
theorem e50 (d : Nat) {l0 : Nat} {σ : xM} {y : Int32 × xM} (h : f50 l0 σ = some y) : Rn (d + 0) 50 0 [.ref l0] [] σ (some (.int y.1), y.2) := by
  unfold f50 at h
  refine rn_steps 3 4 [.ref l0] [.ref l0, .int 75, .ref l0] rfl ?_
  obtain ⟨v1, hv1, h⟩ := Option.bind_eq_some_iff.mp h
  refine rn_gI (c := 4) (f := 1) rfl rfl ⟨⟨rfl, rfl⟩, Or.inl rfl⟩ hv1 ?_
  refine rn_steps 4 13 [.ref l0] [.int 65537, .int ((75 * v1) + 74), .ref l0] rfl ?_
  obtain ⟨v2, hv2, h⟩ := Option.bind_eq_some_iff.mp h
  refine rn_rI rfl hv2 ?_
  refine rn_steps 0 14 [.ref l0] [.int v2, .ref l0] rfl ?_
  obtain ⟨σ3, hσ3, h⟩ := Option.bind_eq_some_iff.mp h
  refine rn_pI (c := 4) (f := 1) rfl rfl ⟨⟨rfl, rfl⟩, rfl⟩ hσ3 ?_
  refine rn_steps 1 18 [.ref l0] [.ref l0] rfl ?_
  obtain ⟨v4, hv4, h⟩ := Option.bind_eq_some_iff.mp h
  refine rn_gI (c := 4) (f := 1) rfl rfl ⟨⟨rfl, rfl⟩, Or.inl rfl⟩ hv4 ?_
  refine rn_steps 0 21 [.ref l0] [.int v4] rfl ?_
  cases h
  exact rn_ret rfl rfl rfl
noncomputable def f59_68 (σ : xM) : Option (Int32 × xM) :=
  some ((-2), σ)
set_option maxRecDepth 20000 in
set_option maxHeartbeats 1000000 in
theorem e59_68 (d : Nat) (x0 x1 x2 x3 x4 x5 : Value) (σ : xM) (y : Int32 × xM) (h : f59_68 σ = some y) : Rn (d + 1) 59 68 [x0, x1, x2, x3, x4, x5] [] σ (some (.int y.1), y.2) := by
  unfold f59_68 at h
  refine rn_steps 1 70 [x0, x1, x2, x3, x4, x5] [.int (-2)] rfl ?_
  cases h
  exact rn_ret rfl rfl rfl
noncomputable def f59_47 (K8 : Nat → Int32 → Int32 → Int32 → Int32 → xM → Option (Int32 × xM)) (σ : xM) : Option (Int32 × xM) :=
  some ((-2), σ)
set_option maxRecDepth 20000 in
set_option maxHeartbeats 1000000 in
theorem e59_47 (d : Nat) (K8 : Nat → Int32 → Int32 → Int32 → Int32 → xM → Option (Int32 × xM)) (hK8 : ∀ (l0 : Nat) (l2 : Int32) (l3 : Int32) (l4 : Int32) (l5 : Int32) (x1 : Value) (σ : xM) (y : Int32 × xM), K8 l0 l2 l3 l4 l5 σ = some y → Rn (d + 1) 59 8 [.ref l0, x1, .int l2, .int l3, .int l4, .int l5] [] σ (some (.int y.1), y.2)) (x0 x1 x2 x3 x4 x5 : Value) (σ : xM) (y : Int32 × xM) (h : f59_47 K8 σ = some y) : Rn (d + 1) 59 47 [x0, x1, x2, x3, x4, x5] [] σ (some (.int y.1), y.2) := by
  unfold f59_47 at h
  refine rn_steps 1 49 [x0, x1, x2, x3, x4, x5] [.int (-2)] rfl ?_
  cases h
  exact rn_ret rfl rfl rfl
noncomputable def f59_8 : Nat → Nat → Int32 → Int32 → Int32 → Int32 → xM → Option (Int32 × xM)
  | 0, _, _, _, _, _, _ => none
  | n + 1, l0, l2, l3, l4, l5, σ =>
    if 6 ≤ l5 then
    f59_68 σ
    else
    (gR σ l0 6 0).bind fun r1 =>
    (aI σ r1 l4).bind fun v2 =>
    if v2 = (-2) then
    f59_47 (f59_8 n) σ
    else
    (f124 (l3 ||| (1 <<< (l4 &&& 31))) v2 σ).bind fun y3 =>
    if y3.1 = 0 then
    (f124 l2 v2 y3.2).bind fun y4 =>
    if y4.1 = 0 then
    some (v2, y4.2)
    else
    (f59_8 n) l0 l2 (l3 ||| (1 <<< (l4 &&& 31))) v2 (l5 + 1) y4.2
    else
    f59_47 (f59_8 n) y3.2
set_option maxRecDepth 20000 in
set_option maxHeartbeats 1000000 in
theorem e59_8 (d : Nat) : ∀ (n : Nat) (l0 : Nat) (l2 : Int32) (l3 : Int32) (l4 : Int32) (l5 : Int32) (x1 : Value) (σ : xM) (y : Int32 × xM), f59_8 n l0 l2 l3 l4 l5 σ = some y → Rn (d + 1) 59 8 [.ref l0, x1, .int l2, .int l3, .int l4, .int l5] [] σ (some (.int y.1), y.2) := by
  intro n
  induction n with
  | zero => intro l0 l2 l3 l4 l5 x1 σ y h; cases h
  | succ n ih =>
    intro l0 l2 l3 l4 l5 x1 σ y h
    unfold f59_8 at h
    refine rn_steps 2 12 [.ref l0, x1, .int l2, .int l3, .int l4, .int l5] [.int 6, .int l5] rfl ?_
    refine rn_br (c := 6 ≤ l5) rfl rfl decide_eq_true_iff (fun hb => ?_) (fun hb => ?_)
    · rw [if_pos hb] at h
      refine rn_steps 0 68 [.ref l0, x1, .int l2, .int l3, .int l4, .int l5] [] rfl ?_
      exact e59_68 d _ _ _ _ _ _ _ _ h
    · rw [if_neg hb] at h
      refine rn_steps 7 23 [.ref l0, x1, .int l2, .int (l3 ||| (1 <<< (l4 &&& 31))), .int l4, .int l5] [.ref l0] rfl ?_
      obtain ⟨r1, hr1, h⟩ := Option.bind_eq_some_iff.mp h
      refine rn_gR (c := 6) (f := 0) rfl rfl ⟨⟨rfl, rfl⟩, rfl⟩ hr1 ?_
      refine rn_steps 1 28 [.ref l0, x1, .int l2, .int (l3 ||| (1 <<< (l4 &&& 31))), .int l4, .int l5] [.int l4, .ref r1] rfl ?_
      obtain ⟨v2, hv2, h⟩ := Option.bind_eq_some_iff.mp h
      refine rn_aI rfl hv2 ?_
      refine rn_steps 3 35 [.ref l0, x1, .int l2, .int (l3 ||| (1 <<< (l4 &&& 31))), .int v2, .int l5] [.int (-2), .int v2] rfl ?_
      refine rn_br (c := v2 = (-2)) rfl rfl decide_eq_true_iff (fun hb => ?_) (fun hb => ?_)
      · rw [if_pos hb] at h
        refine rn_steps 0 47 [.ref l0, x1, .int l2, .int (l3 ||| (1 <<< (l4 &&& 31))), .int v2, .int l5] [] rfl ?_
        exact e59_47 d _ ih _ _ _ _ _ _ _ _ h
      · rw [if_neg hb] at h
        refine rn_steps 2 41 [.ref l0, x1, .int l2, .int (l3 ||| (1 <<< (l4 &&& 31))), .int v2, .int l5] [.int v2, .int (l3 ||| (1 <<< (l4 &&& 31)))] rfl ?_
        obtain ⟨y3, hy3, h⟩ := Option.bind_eq_some_iff.mp h
        refine rn_callS [.int (l3 ||| (1 <<< (l4 &&& 31))), .int v2] rfl rfl rfl ⟨rfl, rfl, rfl⟩ rfl rfl (e124 d hy3) ?_
        refine rn_steps 0 44 [.ref l0, x1, .int l2, .int (l3 ||| (1 <<< (l4 &&& 31))), .int v2, .int l5] [.int y3.1] rfl ?_
        refine rn_br (c := y3.1 = 0) rfl rfl decide_eq_true_iff (fun hb => ?_) (fun hb => ?_)
        · rw [if_pos hb] at h
          refine rn_steps 2 53 [.ref l0, x1, .int l2, .int (l3 ||| (1 <<< (l4 &&& 31))), .int v2, .int l5] [.int v2, .int l2] rfl ?_
          obtain ⟨y4, hy4, h⟩ := Option.bind_eq_some_iff.mp h
          refine rn_callS [.int l2, .int v2] rfl rfl rfl ⟨rfl, rfl, rfl⟩ rfl rfl (e124 d hy4) ?_
          refine rn_steps 0 56 [.ref l0, x1, .int l2, .int (l3 ||| (1 <<< (l4 &&& 31))), .int v2, .int l5] [.int y4.1] rfl ?_
          refine rn_br (c := ¬ y4.1 = 0) rfl rfl decide_eq_true_iff (fun hb => ?_) (fun hb => ?_)
          · rw [if_neg hb] at h
            refine rn_steps 2 8 [.ref l0, x1, .int l2, .int (l3 ||| (1 <<< (l4 &&& 31))), .int v2, .int (l5 + 1)] [] rfl ?_
            exact ih _ _ _ _ _ _ _ _ h
          · rw [if_pos (Decidable.not_not.mp hb)] at h
            refine rn_steps 1 61 [.ref l0, x1, .int l2, .int (l3 ||| (1 <<< (l4 &&& 31))), .int v2, .int l5] [.int v2] rfl ?_
            cases h
            exact rn_ret rfl rfl rfl
        · rw [if_neg hb] at h
          refine rn_steps 0 47 [.ref l0, x1, .int l2, .int (l3 ||| (1 <<< (l4 &&& 31))), .int v2, .int l5] [] rfl ?_
          exact e59_47 d _ ih _ _ _ _ _ _ _ _ h
/-- LastAsked$Wills.endOf(II)I -/
noncomputable def f59 (l0 : Nat) (l1 : Int32) (l2 : Int32) (σ : xM) : Option (Int32 × xM) :=
  f59_8 1100 l0 l2 0 l1 0 σ
set_option maxRecDepth 20000 in
set_option maxHeartbeats 1000000 in
theorem e59 (d : Nat) {l0 : Nat} {l1 : Int32} {l2 : Int32} {σ : xM} {y : Int32 × xM} (h : f59 l0 l1 l2 σ = some y) : Rn (d + 1) 59 0 [.ref l0, .int l1, .int l2, .retAddr 0, .retAddr 0, .retAddr 0] [] σ (some (.int y.1), y.2) := by
  unfold f59 at h
  refine rn_steps 6 8 [.ref l0, .int l1, .int l2, .int 0, .int l1, .int 0] [] rfl ?_
  exact e59_8 d 1100 _ _ _ _ _ _ _ _ h
noncomputable def f51_78 (l0 : Nat) (l1 : Int32) (σ : xM) : Option xM :=
  (gI σ l0 4 4).bind fun v1 =>
  (pI σ l0 4 4 (v1 &&& (l1 ^^^ (-1)))).bind fun σ2 =>
  some σ2
set_option maxRecDepth 20000 in
set_option maxHeartbeats 1000000 in
theorem e51_78 (d : Nat) (l0 : Nat) (l1 : Int32) (x2 x3 x4 x5 : Value) (σ : xM) (y : xM) (h : f51_78 l0 l1 σ = some y) : Rn (d + 2) 51 78 [.ref l0, .int l1, x2, x3, x4, x5] [] σ (none, y) := by
  unfold f51_78 at h
  refine rn_steps 2 80 [.ref l0, .int l1, x2, x3, x4, x5] [.ref l0, .ref l0] rfl ?_
  obtain ⟨v1, hv1, h⟩ := Option.bind_eq_some_iff.mp h
  refine rn_gI (c := 4) (f := 4) rfl rfl ⟨⟨rfl, rfl⟩, Or.inl rfl⟩ hv1 ?_
  refine rn_steps 4 87 [.ref l0, .int l1, x2, x3, x4, x5] [.int (v1 &&& (l1 ^^^ (-1))), .ref l0] rfl ?_
  obtain ⟨σ2, hσ2, h⟩ := Option.bind_eq_some_iff.mp h
  refine rn_pI (c := 4) (f := 4) rfl rfl ⟨⟨rfl, rfl⟩, rfl⟩ hσ2 ?_
  refine rn_steps 0 90 [.ref l0, .int l1, x2, x3, x4, x5] [] rfl ?_
  cases h
  exact rn_ret rfl rfl rfl
noncomputable def f51_72 (K2 : Nat → Int32 → Nat → Int32 → xM → Option xM) (l0 : Nat) (l1 : Int32) (l2 : Nat) (l3 : Int32) (σ : xM) : Option xM :=
  K2 l0 l1 l2 (l3 + 1) σ
set_option maxRecDepth 20000 in
set_option maxHeartbeats 1000000 in
theorem e51_72 (d : Nat) (K2 : Nat → Int32 → Nat → Int32 → xM → Option xM) (hK2 : ∀ (l0 : Nat) (l1 : Int32) (l2 : Nat) (l3 : Int32) (x4 x5 : Value) (σ : xM) (y : xM), K2 l0 l1 l2 l3 σ = some y → Rn (d + 2) 51 2 [.ref l0, .int l1, .ref l2, .int l3, x4, x5] [] σ (none, y)) (l0 : Nat) (l1 : Int32) (l2 : Nat) (l3 : Int32) (x4 x5 : Value) (σ : xM) (y : xM) (h : f51_72 K2 l0 l1 l2 l3 σ = some y) : Rn (d + 2) 51 72 [.ref l0, .int l1, .ref l2, .int l3, x4, x5] [] σ (none, y) := by
  unfold f51_72 at h
  refine rn_steps 2 2 [.ref l0, .int l1, .ref l2, .int (l3 + 1), x4, x5] [] rfl ?_
  exact hK2 _ _ _ _ _ _ _ _ h
noncomputable def f51_2 : Nat → Nat → Int32 → Nat → Int32 → xM → Option xM
  | 0, _, _, _, _, _ => none
  | n + 1, l0, l1, l2, l3, σ =>
    if 6 ≤ l3 then
    f51_78 l0 l1 σ
    else
    (f124 l1 l3 σ).bind fun y1 =>
    if y1.1 = 0 then
    f51_72 (f51_2 n) l0 l1 l2 l3 y1.2
    else
    (gR y1.2 l0 4 5).bind fun r2 =>
    (aI y1.2 r2 l3).bind fun v3 =>
    (gR y1.2 l0 4 5).bind fun r4 =>
    (tI y1.2 r4 l3 0).bind fun σ5 =>
    (cO σ5 l2 6).bind fun u12 =>
    (f59 l2 l3 l1 σ5).bind fun y6 =>
    if y6.1 = (-2) then
    (gI y6.2 l0 4 3).bind fun v10 =>
    (pI y6.2 l0 4 3 (v10 + v3)).bind fun σ11 =>
    f51_72 (f51_2 n) l0 l1 l2 l3 σ11
    else
    (gR y6.2 l0 4 5).bind fun r7 =>
    (aI y6.2 r7 y6.1).bind fun v8 =>
    (tI y6.2 r7 y6.1 (v8 + v3)).bind fun σ9 =>
    f51_72 (f51_2 n) l0 l1 l2 l3 σ9
set_option maxRecDepth 20000 in
set_option maxHeartbeats 1000000 in
theorem e51_2 (d : Nat) : ∀ (n : Nat) (l0 : Nat) (l1 : Int32) (l2 : Nat) (l3 : Int32) (x4 x5 : Value) (σ : xM) (y : xM), f51_2 n l0 l1 l2 l3 σ = some y → Rn (d + 2) 51 2 [.ref l0, .int l1, .ref l2, .int l3, x4, x5] [] σ (none, y) := by
  intro n
  induction n with
  | zero => intro l0 l1 l2 l3 x4 x5 σ y h; cases h
  | succ n ih =>
    intro l0 l1 l2 l3 x4 x5 σ y h
    unfold f51_2 at h
    refine rn_steps 2 5 [.ref l0, .int l1, .ref l2, .int l3, x4, x5] [.int 6, .int l3] rfl ?_
    refine rn_br (c := 6 ≤ l3) rfl rfl decide_eq_true_iff (fun hb => ?_) (fun hb => ?_)
    · rw [if_pos hb] at h
      refine rn_steps 0 78 [.ref l0, .int l1, .ref l2, .int l3, x4, x5] [] rfl ?_
      exact e51_78 d _ _ _ _ _ _ _ _ h
    · rw [if_neg hb] at h
      refine rn_steps 2 10 [.ref l0, .int l1, .ref l2, .int l3, x4, x5] [.int l3, .int l1] rfl ?_
      obtain ⟨y1, hy1, h⟩ := Option.bind_eq_some_iff.mp h
      refine rn_callS [.int l1, .int l3] rfl rfl rfl ⟨rfl, rfl, rfl⟩ rfl rfl (e124 (d + 1) hy1) ?_
      refine rn_steps 0 13 [.ref l0, .int l1, .ref l2, .int l3, x4, x5] [.int y1.1] rfl ?_
      refine rn_br (c := y1.1 = 0) rfl rfl decide_eq_true_iff (fun hb => ?_) (fun hb => ?_)
      · rw [if_pos hb] at h
        refine rn_steps 0 72 [.ref l0, .int l1, .ref l2, .int l3, x4, x5] [] rfl ?_
        exact e51_72 d _ ih _ _ _ _ _ _ _ _ h
      · rw [if_neg hb] at h
        refine rn_steps 1 17 [.ref l0, .int l1, .ref l2, .int l3, x4, x5] [.ref l0] rfl ?_
        obtain ⟨r2, hr2, h⟩ := Option.bind_eq_some_iff.mp h
        refine rn_gR (c := 4) (f := 5) rfl rfl ⟨⟨rfl, rfl⟩, rfl⟩ hr2 ?_
        refine rn_steps 1 21 [.ref l0, .int l1, .ref l2, .int l3, x4, x5] [.int l3, .ref r2] rfl ?_
        obtain ⟨v3, hv3, h⟩ := Option.bind_eq_some_iff.mp h
        refine rn_aI rfl hv3 ?_
        refine rn_steps 2 25 [.ref l0, .int l1, .ref l2, .int l3, .int v3, x5] [.ref l0] rfl ?_
        obtain ⟨r4, hr4, h⟩ := Option.bind_eq_some_iff.mp h
        refine rn_gR (c := 4) (f := 5) rfl rfl ⟨⟨rfl, rfl⟩, rfl⟩ hr4 ?_
        refine rn_steps 2 30 [.ref l0, .int l1, .ref l2, .int l3, .int v3, x5] [.int 0, .int l3, .ref r4] rfl ?_
        obtain ⟨σ5, hσ5, h⟩ := Option.bind_eq_some_iff.mp h
        refine rn_tI rfl hσ5 ?_
        refine rn_steps 3 34 [.ref l0, .int l1, .ref l2, .int l3, .int v3, x5] [.int l1, .int l3, .ref l2] rfl ?_
        obtain ⟨u12, hu12, h⟩ := Option.bind_eq_some_iff.mp h
        obtain ⟨y6, hy6, h⟩ := Option.bind_eq_some_iff.mp h
        refine rn_callV [.int l3, .int l1] rfl rfl ⟨rfl, rfl⟩ hu12 rfl rfl (e59 d hy6) ?_
        refine rn_steps 3 43 [.ref l0, .int l1, .ref l2, .int l3, .int v3, .int y6.1] [.int (-2), .int y6.1] rfl ?_
        refine rn_br (c := ¬ y6.1 = (-2)) rfl rfl decide_eq_true_iff (fun hb => ?_) (fun hb => ?_)
        · rw [if_neg hb] at h
          refine rn_steps 1 61 [.ref l0, .int l1, .ref l2, .int l3, .int v3, .int y6.1] [.ref l0] rfl ?_
          obtain ⟨r7, hr7, h⟩ := Option.bind_eq_some_iff.mp h
          refine rn_gR (c := 4) (f := 5) rfl rfl ⟨⟨rfl, rfl⟩, rfl⟩ hr7 ?_
          refine rn_steps 2 67 [.ref l0, .int l1, .ref l2, .int l3, .int v3, .int y6.1] [.int y6.1, .ref r7, .int y6.1, .ref r7] rfl ?_
          obtain ⟨v8, hv8, h⟩ := Option.bind_eq_some_iff.mp h
          refine rn_aI rfl hv8 ?_
          refine rn_steps 2 71 [.ref l0, .int l1, .ref l2, .int l3, .int v3, .int y6.1] [.int (v8 + v3), .int y6.1, .ref r7] rfl ?_
          obtain ⟨σ9, hσ9, h⟩ := Option.bind_eq_some_iff.mp h
          refine rn_tI rfl hσ9 ?_
          refine rn_steps 0 72 [.ref l0, .int l1, .ref l2, .int l3, .int v3, .int y6.1] [] rfl ?_
          exact e51_72 d _ ih _ _ _ _ _ _ _ _ h
        · rw [if_pos (Decidable.not_not.mp hb)] at h
          refine rn_steps 2 48 [.ref l0, .int l1, .ref l2, .int l3, .int v3, .int y6.1] [.ref l0, .ref l0] rfl ?_
          obtain ⟨v10, hv10, h⟩ := Option.bind_eq_some_iff.mp h
          refine rn_gI (c := 4) (f := 3) rfl rfl ⟨⟨rfl, rfl⟩, Or.inl rfl⟩ hv10 ?_
          refine rn_steps 2 54 [.ref l0, .int l1, .ref l2, .int l3, .int v3, .int y6.1] [.int (v10 + v3), .ref l0] rfl ?_
          obtain ⟨σ11, hσ11, h⟩ := Option.bind_eq_some_iff.mp h
          refine rn_pI (c := 4) (f := 3) rfl rfl ⟨⟨rfl, rfl⟩, rfl⟩ hσ11 ?_
          refine rn_steps 1 72 [.ref l0, .int l1, .ref l2, .int l3, .int v3, .int y6.1] [] rfl ?_
          exact e51_72 d _ ih _ _ _ _ _ _ _ _ h
/-- LastAsked$State.leave(ILLastAsked$Wills;)V -/
noncomputable def f51 (l0 : Nat) (l1 : Int32) (l2 : Nat) (σ : xM) : Option xM :=
  f51_2 1100 l0 l1 l2 0 σ
set_option maxRecDepth 20000 in
set_option maxHeartbeats 1000000 in
theorem e51 (d : Nat) {l0 : Nat} {l1 : Int32} {l2 : Nat} {σ : xM} {y : xM} (h : f51 l0 l1 l2 σ = some y) : Rn (d + 2) 51 0 [.ref l0, .int l1, .ref l2, .retAddr 0, .retAddr 0, .retAddr 0] [] σ (none, y) := by
  unfold f51 at h
  refine rn_steps 2 2 [.ref l0, .int l1, .ref l2, .int 0, .retAddr 0, .retAddr 0] [] rfl ?_
  exact e51_2 d 1100 _ _ _ _ _ _ _ _ h
/-- LastAsked$Walks.<init>()V -/
noncomputable def f52 (l0 : Nat) (σ : xM) : Option xM :=
  (nA σ 11 384).bind fun σ1 =>
  (pR σ1 l0 5 0 (mN σ)).bind fun σ2 =>
  some σ2
set_option maxRecDepth 20000 in
set_option maxHeartbeats 1000000 in
theorem e52 (d : Nat) {l0 : Nat} {σ : xM} {y : xM} (h : f52 l0 σ = some y) : Rn (d + 1) 52 0 [.ref l0] [] σ (none, y) := by
  unfold f52 at h
  refine rn_steps 4 8 [.ref l0] [.int 384, .ref l0] rfl ?_
  obtain ⟨σ1, hσ1, h⟩ := Option.bind_eq_some_iff.mp h
  refine rn_nA rfl hσ1 ?_
  refine rn_steps 0 10 [.ref l0] [.ref (mN σ), .ref l0] rfl ?_
  obtain ⟨σ2, hσ2, h⟩ := Option.bind_eq_some_iff.mp h
  refine rn_pR (c := 5) (f := 0) rfl rfl ⟨⟨rfl, rfl⟩, rfl⟩ hσ2 ?_
  refine rn_steps 0 13 [.ref l0] [] rfl ?_
  cases h
  exact rn_ret rfl rfl rfl
noncomputable def f54_84 (l6 : Int32) (σ : xM) : Option (Int32 × xM) :=
  some (l6, σ)
set_option maxRecDepth 20000 in
set_option maxHeartbeats 1000000 in
theorem e54_84 (d : Nat) (l6 : Int32) (x0 x1 x2 x3 x4 x5 x7 : Value) (σ : xM) (y : Int32 × xM) (h : f54_84 l6 σ = some y) : Rn (d + 1) 54 84 [x0, x1, x2, x3, x4, x5, .int l6, x7] [] σ (some (.int y.1), y.2) := by
  unfold f54_84 at h
  refine rn_steps 1 86 [x0, x1, x2, x3, x4, x5, .int l6, x7] [.int l6] rfl ?_
  cases h
  exact rn_ret rfl rfl rfl
noncomputable def f54_78 (K31 : Nat → Int32 → Nat → Int32 → Int32 → Int32 → xM → Option (Int32 × xM)) (l0 : Nat) (l3 : Int32) (l4 : Nat) (l5 : Int32) (l6 : Int32) (l7 : Int32) (σ : xM) : Option (Int32 × xM) :=
  K31 l0 l3 l4 l5 l6 (l7 + 1) σ
set_option maxRecDepth 20000 in
set_option maxHeartbeats 1000000 in
theorem e54_78 (d : Nat) (K31 : Nat → Int32 → Nat → Int32 → Int32 → Int32 → xM → Option (Int32 × xM)) (hK31 : ∀ (l0 : Nat) (l3 : Int32) (l4 : Nat) (l5 : Int32) (l6 : Int32) (l7 : Int32) (x1 x2 : Value) (σ : xM) (y : Int32 × xM), K31 l0 l3 l4 l5 l6 l7 σ = some y → Rn (d + 1) 54 31 [.ref l0, x1, x2, .int l3, .ref l4, .int l5, .int l6, .int l7] [] σ (some (.int y.1), y.2)) (l0 : Nat) (l3 : Int32) (l4 : Nat) (l5 : Int32) (l6 : Int32) (l7 : Int32) (x1 x2 : Value) (σ : xM) (y : Int32 × xM) (h : f54_78 K31 l0 l3 l4 l5 l6 l7 σ = some y) : Rn (d + 1) 54 78 [.ref l0, x1, x2, .int l3, .ref l4, .int l5, .int l6, .int l7] [] σ (some (.int y.1), y.2) := by
  unfold f54_78 at h
  refine rn_steps 2 31 [.ref l0, x1, x2, .int l3, .ref l4, .int l5, .int l6, .int (l7 + 1)] [] rfl ?_
  exact hK31 _ _ _ _ _ _ _ _ _ _ h
noncomputable def f54_31 : Nat → Nat → Int32 → Nat → Int32 → Int32 → Int32 → xM → Option (Int32 × xM)
  | 0, _, _, _, _, _, _, _ => none
  | n + 1, l0, l3, l4, l5, l6, l7, σ =>
    if 6 ≤ l7 then
    f54_84 l6 σ
    else
    (f124 l5 l7 σ).bind fun y1 =>
    if y1.1 = 0 then
    f54_78 (f54_31 n) l0 l3 l4 l5 l6 l7 y1.2
    else
    (gR y1.2 l0 5 0).bind fun r2 =>
    (aI y1.2 r2 ((l5 * 6) + l7)).bind fun v3 =>
    (f125 l7 l3 y1.2).bind fun y4 =>
    (aI y4.2 l4 y4.1).bind fun v5 =>
    f54_78 (f54_31 n) l0 l3 l4 l5 (if (v3 + v5) < l6 then (v3 + v5) else l6) l7 y4.2
set_option maxRecDepth 20000 in
set_option maxHeartbeats 1000000 in
theorem e54_31 (d : Nat) : ∀ (n : Nat) (l0 : Nat) (l3 : Int32) (l4 : Nat) (l5 : Int32) (l6 : Int32) (l7 : Int32) (x1 x2 : Value) (σ : xM) (y : Int32 × xM), f54_31 n l0 l3 l4 l5 l6 l7 σ = some y → Rn (d + 1) 54 31 [.ref l0, x1, x2, .int l3, .ref l4, .int l5, .int l6, .int l7] [] σ (some (.int y.1), y.2) := by
  intro n
  induction n with
  | zero => intro l0 l3 l4 l5 l6 l7 x1 x2 σ y h; cases h
  | succ n ih =>
    intro l0 l3 l4 l5 l6 l7 x1 x2 σ y h
    unfold f54_31 at h
    refine rn_steps 2 35 [.ref l0, x1, x2, .int l3, .ref l4, .int l5, .int l6, .int l7] [.int 6, .int l7] rfl ?_
    refine rn_br (c := 6 ≤ l7) rfl rfl decide_eq_true_iff (fun hb => ?_) (fun hb => ?_)
    · rw [if_pos hb] at h
      refine rn_steps 0 84 [.ref l0, x1, x2, .int l3, .ref l4, .int l5, .int l6, .int l7] [] rfl ?_
      exact e54_84 d _ _ _ _ _ _ _ _ _ _ h
    · rw [if_neg hb] at h
      refine rn_steps 2 42 [.ref l0, x1, x2, .int l3, .ref l4, .int l5, .int l6, .int l7] [.int l7, .int l5] rfl ?_
      obtain ⟨y1, hy1, h⟩ := Option.bind_eq_some_iff.mp h
      refine rn_callS [.int l5, .int l7] rfl rfl rfl ⟨rfl, rfl, rfl⟩ rfl rfl (e124 d hy1) ?_
      refine rn_steps 0 45 [.ref l0, x1, x2, .int l3, .ref l4, .int l5, .int l6, .int l7] [.int y1.1] rfl ?_
      refine rn_br (c := y1.1 = 0) rfl rfl decide_eq_true_iff (fun hb => ?_) (fun hb => ?_)
      · rw [if_pos hb] at h
        refine rn_steps 0 78 [.ref l0, x1, x2, .int l3, .ref l4, .int l5, .int l6, .int l7] [] rfl ?_
        exact e54_78 d _ ih _ _ _ _ _ _ _ _ _ _ h
      · rw [if_neg hb] at h
        refine rn_steps 2 51 [.ref l0, x1, x2, .int l3, .ref l4, .int l5, .int l6, .int l7] [.ref l0, .int l6] rfl ?_
        obtain ⟨r2, hr2, h⟩ := Option.bind_eq_some_iff.mp h
        refine rn_gR (c := 5) (f := 0) rfl rfl ⟨⟨rfl, rfl⟩, rfl⟩ hr2 ?_
        refine rn_steps 5 62 [.ref l0, x1, x2, .int l3, .ref l4, .int l5, .int l6, .int l7] [.int ((l5 * 6) + l7), .ref r2, .int l6] rfl ?_
        obtain ⟨v3, hv3, h⟩ := Option.bind_eq_some_iff.mp h
        refine rn_aI rfl hv3 ?_
        refine rn_steps 3 68 [.ref l0, x1, x2, .int l3, .ref l4, .int l5, .int l6, .int l7] [.int l3, .int l7, .ref l4, .int v3, .int l6] rfl ?_
        obtain ⟨y4, hy4, h⟩ := Option.bind_eq_some_iff.mp h
        refine rn_callS [.int l7, .int l3] rfl rfl rfl ⟨rfl, rfl, rfl⟩ rfl rfl (e125 d hy4) ?_
        refine rn_steps 0 71 [.ref l0, x1, x2, .int l3, .ref l4, .int l5, .int l6, .int l7] [.int y4.1, .ref l4, .int v3, .int l6] rfl ?_
        obtain ⟨v5, hv5, h⟩ := Option.bind_eq_some_iff.mp h
        refine rn_aI rfl hv5 ?_
        refine rn_steps 3 78 [.ref l0, x1, x2, .int l3, .ref l4, .int l5, .int (if (v3 + v5) < l6 then (v3 + v5) else l6), .int l7] [] rfl ?_
        exact e54_78 d _ ih _ _ _ _ _ _ _ _ _ _ h
/-- LastAsked$Walks.leastTo(III[I)I -/
noncomputable def f54 (l0 : Nat) (l1 : Int32) (l2 : Int32) (l3 : Int32) (l4 : Nat) (σ : xM) : Option (Int32 × xM) :=
  if (l2 &&& ((1 <<< (l3 &&& 31)) ^^^ (-1))) = 0 then
  (f125 l1 l3 σ).bind fun y1 =>
  (aI y1.2 l4 y1.1).bind fun v2 =>
  some (v2, y1.2)
  else
  f54_31 1100 l0 l3 l4 (l2 &&& ((1 <<< (l3 &&& 31)) ^^^ (-1))) 1000 0 σ
set_option maxRecDepth 20000 in
set_option maxHeartbeats 1000000 in
theorem e54 (d : Nat) {l0 : Nat} {l1 : Int32} {l2 : Int32} {l3 : Int32} {l4 : Nat} {σ : xM} {y : Int32 × xM} (h : f54 l0 l1 l2 l3 l4 σ = some y) : Rn (d + 1) 54 0 [.ref l0, .int l1, .int l2, .int l3, .ref l4, .retAddr 0, .retAddr 0, .retAddr 0] [] σ (some (.int y.1), y.2) := by
  unfold f54 at h
  refine rn_steps 9 11 [.ref l0, .int l1, .int l2, .int l3, .ref l4, .int (l2 &&& ((1 <<< (l3 &&& 31)) ^^^ (-1))), .retAddr 0, .retAddr 0] [.int (l2 &&& ((1 <<< (l3 &&& 31)) ^^^ (-1)))] rfl ?_
  refine rn_br (c := ¬ (l2 &&& ((1 <<< (l3 &&& 31)) ^^^ (-1))) = 0) rfl rfl decide_eq_true_iff (fun hb => ?_) (fun hb => ?_)
  · rw [if_neg hb] at h
    refine rn_steps 4 31 [.ref l0, .int l1, .int l2, .int l3, .ref l4, .int (l2 &&& ((1 <<< (l3 &&& 31)) ^^^ (-1))), .int 1000, .int 0] [] rfl ?_
    exact e54_31 d 1100 _ _ _ _ _ _ _ _ _ _ h
  · rw [if_pos (Decidable.not_not.mp hb)] at h
    refine rn_steps 3 18 [.ref l0, .int l1, .int l2, .int l3, .ref l4, .int (l2 &&& ((1 <<< (l3 &&& 31)) ^^^ (-1))), .retAddr 0, .retAddr 0] [.int l3, .int l1, .ref l4] rfl ?_
    obtain ⟨y1, hy1, h⟩ := Option.bind_eq_some_iff.mp h
    refine rn_callS [.int l1, .int l3] rfl rfl rfl ⟨rfl, rfl, rfl⟩ rfl rfl (e125 d hy1) ?_
    refine rn_steps 0 21 [.ref l0, .int l1, .int l2, .int l3, .ref l4, .int (l2 &&& ((1 <<< (l3 &&& 31)) ^^^ (-1))), .retAddr 0, .retAddr 0] [.int y1.1, .ref l4] rfl ?_
    obtain ⟨v2, hv2, h⟩ := Option.bind_eq_some_iff.mp h
    refine rn_aI rfl hv2 ?_
    refine rn_steps 0 22 [.ref l0, .int l1, .int l2, .int l3, .ref l4, .int (l2 &&& ((1 <<< (l3 &&& 31)) ^^^ (-1))), .retAddr 0, .retAddr 0] [.int v2] rfl ?_
    cases h
    exact rn_ret rfl rfl rfl
noncomputable def f53_66 (σ : xM) : Option xM :=
  some σ
set_option maxRecDepth 20000 in
set_option maxHeartbeats 1000000 in
theorem e53_66 (d : Nat) (x0 x1 x2 x3 x4 : Value) (σ : xM) (y : xM) (h : f53_66 σ = some y) : Rn (d + 2) 53 66 [x0, x1, x2, x3, x4] [] σ (none, y) := by
  unfold f53_66 at h
  cases h
  exact rn_ret rfl rfl rfl
noncomputable def f53_60 (K2 : Nat → Int32 → Nat → Int32 → xM → Option xM) (l0 : Nat) (l1 : Int32) (l2 : Nat) (l3 : Int32) (σ : xM) : Option xM :=
  K2 l0 l1 l2 (l3 + 1) σ
set_option maxRecDepth 20000 in
set_option maxHeartbeats 1000000 in
theorem e53_60 (d : Nat) (K2 : Nat → Int32 → Nat → Int32 → xM → Option xM) (hK2 : ∀ (l0 : Nat) (l1 : Int32) (l2 : Nat) (l3 : Int32) (x4 : Value) (σ : xM) (y : xM), K2 l0 l1 l2 l3 σ = some y → Rn (d + 2) 53 2 [.ref l0, .int l1, .ref l2, .int l3, x4] [] σ (none, y)) (l0 : Nat) (l1 : Int32) (l2 : Nat) (l3 : Int32) (x4 : Value) (σ : xM) (y : xM) (h : f53_60 K2 l0 l1 l2 l3 σ = some y) : Rn (d + 2) 53 60 [.ref l0, .int l1, .ref l2, .int l3, x4] [] σ (none, y) := by
  unfold f53_60 at h
  refine rn_steps 2 2 [.ref l0, .int l1, .ref l2, .int (l3 + 1), x4] [] rfl ?_
  exact hK2 _ _ _ _ _ _ _ h
noncomputable def f53_53 (K2 : Nat → Int32 → Nat → Int32 → xM → Option xM) (K11 : Nat → Int32 → Nat → Int32 → Int32 → xM → Option xM) (l0 : Nat) (l1 : Int32) (l2 : Nat) (l3 : Int32) (l4 : Int32) (s0 : Int32) (s1 : Int32) (s2 : Nat) (σ : xM) : Option xM :=
  (tI σ s2 s1 s0).bind fun σ1 =>
  K11 l0 l1 l2 l3 (l4 + 1) σ1
set_option maxRecDepth 20000 in
set_option maxHeartbeats 1000000 in
theorem e53_53 (d : Nat) (K2 : Nat → Int32 → Nat → Int32 → xM → Option xM) (hK2 : ∀ (l0 : Nat) (l1 : Int32) (l2 : Nat) (l3 : Int32) (x4 : Value) (σ : xM) (y : xM), K2 l0 l1 l2 l3 σ = some y → Rn (d + 2) 53 2 [.ref l0, .int l1, .ref l2, .int l3, x4] [] σ (none, y)) (K11 : Nat → Int32 → Nat → Int32 → Int32 → xM → Option xM) (hK11 : ∀ (l0 : Nat) (l1 : Int32) (l2 : Nat) (l3 : Int32) (l4 : Int32) (σ : xM) (y : xM), K11 l0 l1 l2 l3 l4 σ = some y → Rn (d + 2) 53 11 [.ref l0, .int l1, .ref l2, .int l3, .int l4] [] σ (none, y)) (l0 : Nat) (l1 : Int32) (l2 : Nat) (l3 : Int32) (l4 : Int32) (s0 : Int32) (s1 : Int32) (s2 : Nat) (σ : xM) (y : xM) (h : f53_53 K2 K11 l0 l1 l2 l3 l4 s0 s1 s2 σ = some y) : Rn (d + 2) 53 53 [.ref l0, .int l1, .ref l2, .int l3, .int l4] [.int s0, .int s1, .ref s2] σ (none, y) := by
  unfold f53_53 at h
  obtain ⟨σ1, hσ1, h⟩ := Option.bind_eq_some_iff.mp h
  refine rn_tI rfl hσ1 ?_
  refine rn_steps 2 11 [.ref l0, .int l1, .ref l2, .int l3, .int (l4 + 1)] [] rfl ?_
  exact hK11 _ _ _ _ _ _ _ h
noncomputable def f53_11 (K2 : Nat → Int32 → Nat → Int32 → xM → Option xM) : Nat → Nat → Int32 → Nat → Int32 → Int32 → xM → Option xM
  | 0, _, _, _, _, _, _ => none
  | n + 1, l0, l1, l2, l3, l4, σ =>
    if 6 ≤ l4 then
    f53_60 K2 l0 l1 l2 l3 σ
    else
    (gR σ l0 5 0).bind fun r1 =>
    (f124 l3 l4 σ).bind fun y2 =>
    if y2.1 = 0 then
    f53_53 K2 (f53_11 K2 n) l0 l1 l2 l3 l4 1000 ((l3 * 6) + l4) r1 y2.2
    else
    (cO y2.2 l0 5).bind fun u4 =>
    (f54 l0 l1 l3 l4 l2 y2.2).bind fun y3 =>
    f53_53 K2 (f53_11 K2 n) l0 l1 l2 l3 l4 y3.1 ((l3 * 6) + l4) r1 y3.2
set_option maxRecDepth 20000 in
set_option maxHeartbeats 1000000 in
theorem e53_11 (d : Nat) (K2 : Nat → Int32 → Nat → Int32 → xM → Option xM) (hK2 : ∀ (l0 : Nat) (l1 : Int32) (l2 : Nat) (l3 : Int32) (x4 : Value) (σ : xM) (y : xM), K2 l0 l1 l2 l3 σ = some y → Rn (d + 2) 53 2 [.ref l0, .int l1, .ref l2, .int l3, x4] [] σ (none, y)) : ∀ (n : Nat) (l0 : Nat) (l1 : Int32) (l2 : Nat) (l3 : Int32) (l4 : Int32) (σ : xM) (y : xM), f53_11 K2 n l0 l1 l2 l3 l4 σ = some y → Rn (d + 2) 53 11 [.ref l0, .int l1, .ref l2, .int l3, .int l4] [] σ (none, y) := by
  intro n
  induction n with
  | zero => intro l0 l1 l2 l3 l4 σ y h; cases h
  | succ n ih =>
    intro l0 l1 l2 l3 l4 σ y h
    unfold f53_11 at h
    refine rn_steps 2 15 [.ref l0, .int l1, .ref l2, .int l3, .int l4] [.int 6, .int l4] rfl ?_
    refine rn_br (c := 6 ≤ l4) rfl rfl decide_eq_true_iff (fun hb => ?_) (fun hb => ?_)
    · rw [if_pos hb] at h
      refine rn_steps 0 60 [.ref l0, .int l1, .ref l2, .int l3, .int l4] [] rfl ?_
      exact e53_60 d _ hK2 _ _ _ _ _ _ _ h
    · rw [if_neg hb] at h
      refine rn_steps 1 19 [.ref l0, .int l1, .ref l2, .int l3, .int l4] [.ref l0] rfl ?_
      obtain ⟨r1, hr1, h⟩ := Option.bind_eq_some_iff.mp h
      refine rn_gR (c := 5) (f := 0) rfl rfl ⟨⟨rfl, rfl⟩, rfl⟩ hr1 ?_
      refine rn_steps 7 32 [.ref l0, .int l1, .ref l2, .int l3, .int l4] [.int l4, .int l3, .int ((l3 * 6) + l4), .ref r1] rfl ?_
      obtain ⟨y2, hy2, h⟩ := Option.bind_eq_some_iff.mp h
      refine rn_callS [.int l3, .int l4] rfl rfl rfl ⟨rfl, rfl, rfl⟩ rfl rfl (e124 (d + 1) hy2) ?_
      refine rn_steps 0 35 [.ref l0, .int l1, .ref l2, .int l3, .int l4] [.int y2.1, .int ((l3 * 6) + l4), .ref r1] rfl ?_
      refine rn_br (c := y2.1 = 0) rfl rfl decide_eq_true_iff (fun hb => ?_) (fun hb => ?_)
      · rw [if_pos hb] at h
        refine rn_steps 1 53 [.ref l0, .int l1, .ref l2, .int l3, .int l4] [.int 1000, .int ((l3 * 6) + l4), .ref r1] rfl ?_
        exact e53_53 d _ hK2 _ ih _ _ _ _ _ _ _ _ _ _ h
      · rw [if_neg hb] at h
        refine rn_steps 5 44 [.ref l0, .int l1, .ref l2, .int l3, .int l4] [.ref l2, .int l4, .int l3, .int l1, .ref l0, .int ((l3 * 6) + l4), .ref r1] rfl ?_
        obtain ⟨u4, hu4, h⟩ := Option.bind_eq_some_iff.mp h
        obtain ⟨y3, hy3, h⟩ := Option.bind_eq_some_iff.mp h
        refine rn_callV [.int l1, .int l3, .int l4, .ref l2] rfl rfl ⟨rfl, rfl⟩ hu4 rfl rfl (e54 d hy3) ?_
        refine rn_steps 1 53 [.ref l0, .int l1, .ref l2, .int l3, .int l4] [.int y3.1, .int ((l3 * 6) + l4), .ref r1] rfl ?_
        exact e53_53 d _ hK2 _ ih _ _ _ _ _ _ _ _ _ _ h
noncomputable def f53_2 : Nat → Nat → Int32 → Nat → Int32 → xM → Option xM
  | 0, _, _, _, _, _ => none
  | n + 1, l0, l1, l2, l3, σ =>
    if 64 ≤ l3 then
    f53_66 σ
    else
    f53_11 (f53_2 n) 1100 l0 l1 l2 l3 0 σ
set_option maxRecDepth 20000 in
set_option maxHeartbeats 1000000 in
theorem e53_2 (d : Nat) : ∀ (n : Nat) (l0 : Nat) (l1 : Int32) (l2 : Nat) (l3 : Int32) (x4 : Value) (σ : xM) (y : xM), f53_2 n l0 l1 l2 l3 σ = some y → Rn (d + 2) 53 2 [.ref l0, .int l1, .ref l2, .int l3, x4] [] σ (none, y) := by
  intro n
  induction n with
  | zero => intro l0 l1 l2 l3 x4 σ y h; cases h
  | succ n ih =>
    intro l0 l1 l2 l3 x4 σ y h
    unfold f53_2 at h
    refine rn_steps 2 5 [.ref l0, .int l1, .ref l2, .int l3, x4] [.int 64, .int l3] rfl ?_
    refine rn_br (c := 64 ≤ l3) rfl rfl decide_eq_true_iff (fun hb => ?_) (fun hb => ?_)
    · rw [if_pos hb] at h
      refine rn_steps 0 66 [.ref l0, .int l1, .ref l2, .int l3, x4] [] rfl ?_
      exact e53_66 d _ _ _ _ _ _ _ h
    · rw [if_neg hb] at h
      refine rn_steps 2 11 [.ref l0, .int l1, .ref l2, .int l3, .int 0] [] rfl ?_
      exact e53_11 d _ ih 1100 _ _ _ _ _ _ _ h
/-- LastAsked$Walks.measure(I[I)V -/
noncomputable def f53 (l0 : Nat) (l1 : Int32) (l2 : Nat) (σ : xM) : Option xM :=
  f53_2 1100 l0 l1 l2 1 σ
set_option maxRecDepth 20000 in
set_option maxHeartbeats 1000000 in
theorem e53 (d : Nat) {l0 : Nat} {l1 : Int32} {l2 : Nat} {σ : xM} {y : xM} (h : f53 l0 l1 l2 σ = some y) : Rn (d + 2) 53 0 [.ref l0, .int l1, .ref l2, .retAddr 0, .retAddr 0] [] σ (none, y) := by
  unfold f53 at h
  refine rn_steps 2 2 [.ref l0, .int l1, .ref l2, .int 1, .retAddr 0] [] rfl ?_
  exact e53_2 d 1100 _ _ _ _ _ _ _ h
noncomputable def f55_46 (l2 : Int32) (σ : xM) : Option (Int32 × xM) :=
  some (l2, σ)
set_option maxRecDepth 20000 in
set_option maxHeartbeats 1000000 in
theorem e55_46 (d : Nat) (l2 : Int32) (x0 x1 x3 : Value) (σ : xM) (y : Int32 × xM) (h : f55_46 l2 σ = some y) : Rn (d + 1) 55 46 [x0, x1, .int l2, x3] [] σ (some (.int y.1), y.2) := by
  unfold f55_46 at h
  refine rn_steps 1 47 [x0, x1, .int l2, x3] [.int l2] rfl ?_
  cases h
  exact rn_ret rfl rfl rfl
noncomputable def f55_18 : Nat → Nat → Int32 → Int32 → Int32 → xM → Option (Int32 × xM)
  | 0, _, _, _, _, _ => none
  | n + 1, l0, l1, l2, l3, σ =>
    if 6 ≤ l3 then
    f55_46 l2 σ
    else
    (gR σ l0 5 0).bind fun r1 =>
    (aI σ r1 ((l1 * 6) + l3)).bind fun v2 =>
    (f55_18 n) l0 l1 (if v2 < l2 then v2 else l2) (l3 + 1) σ
set_option maxRecDepth 20000 in
set_option maxHeartbeats 1000000 in
theorem e55_18 (d : Nat) : ∀ (n : Nat) (l0 : Nat) (l1 : Int32) (l2 : Int32) (l3 : Int32) (σ : xM) (y : Int32 × xM), f55_18 n l0 l1 l2 l3 σ = some y → Rn (d + 1) 55 18 [.ref l0, .int l1, .int l2, .int l3] [] σ (some (.int y.1), y.2) := by
  intro n
  induction n with
  | zero => intro l0 l1 l2 l3 σ y h; cases h
  | succ n ih =>
    intro l0 l1 l2 l3 σ y h
    unfold f55_18 at h
    refine rn_steps 2 21 [.ref l0, .int l1, .int l2, .int l3] [.int 6, .int l3] rfl ?_
    refine rn_br (c := 6 ≤ l3) rfl rfl decide_eq_true_iff (fun hb => ?_) (fun hb => ?_)
    · rw [if_pos hb] at h
      refine rn_steps 0 46 [.ref l0, .int l1, .int l2, .int l3] [] rfl ?_
      exact e55_46 d _ _ _ _ _ _ h
    · rw [if_neg hb] at h
      refine rn_steps 2 26 [.ref l0, .int l1, .int l2, .int l3] [.ref l0, .int l2] rfl ?_
      obtain ⟨r1, hr1, h⟩ := Option.bind_eq_some_iff.mp h
      refine rn_gR (c := 5) (f := 0) rfl rfl ⟨⟨rfl, rfl⟩, rfl⟩ hr1 ?_
      refine rn_steps 5 35 [.ref l0, .int l1, .int l2, .int l3] [.int ((l1 * 6) + l3), .ref r1, .int l2] rfl ?_
      obtain ⟨v2, hv2, h⟩ := Option.bind_eq_some_iff.mp h
      refine rn_aI rfl hv2 ?_
      refine rn_steps 4 18 [.ref l0, .int l1, .int (if v2 < l2 then v2 else l2), .int (l3 + 1)] [] rfl ?_
      exact ih _ _ _ _ _ _ h
noncomputable def f55_10 (σ : xM) : Option (Int32 × xM) :=
  some (0, σ)
set_option maxRecDepth 20000 in
set_option maxHeartbeats 1000000 in
theorem e55_10 (d : Nat) (x0 x1 x2 x3 : Value) (σ : xM) (y : Int32 × xM) (h : f55_10 σ = some y) : Rn (d + 1) 55 10 [x0, x1, x2, x3] [] σ (some (.int y.1), y.2) := by
  unfold f55_10 at h
  refine rn_steps 1 11 [x0, x1, x2, x3] [.int 0] rfl ?_
  cases h
  exact rn_ret rfl rfl rfl
/-- LastAsked$Walks.hoursFor(I)I -/
noncomputable def f55 (l0 : Nat) (l1 : Int32) (σ : xM) : Option (Int32 × xM) :=
  if l1 ≤ 0 then
  f55_10 σ
  else
  if l1 < 64 then
  f55_18 1100 l0 l1 1000 0 σ
  else
  f55_10 σ
set_option maxRecDepth 20000 in
set_option maxHeartbeats 1000000 in
theorem e55 (d : Nat) {l0 : Nat} {l1 : Int32} {σ : xM} {y : Int32 × xM} (h : f55 l0 l1 σ = some y) : Rn (d + 1) 55 0 [.ref l0, .int l1, .retAddr 0, .retAddr 0] [] σ (some (.int y.1), y.2) := by
  unfold f55 at h
  refine rn_steps 1 1 [.ref l0, .int l1, .retAddr 0, .retAddr 0] [.int l1] rfl ?_
  refine rn_br (c := l1 ≤ 0) rfl rfl decide_eq_true_iff (fun hb => ?_) (fun hb => ?_)
  · rw [if_pos hb] at h
    refine rn_steps 0 10 [.ref l0, .int l1, .retAddr 0, .retAddr 0] [] rfl ?_
    exact e55_10 d _ _ _ _ _ _ h
  · rw [if_neg hb] at h
    refine rn_steps 2 7 [.ref l0, .int l1, .retAddr 0, .retAddr 0] [.int 64, .int l1] rfl ?_
    refine rn_br (c := l1 < 64) rfl rfl decide_eq_true_iff (fun hb => ?_) (fun hb => ?_)
    · rw [if_pos hb] at h
      refine rn_steps 4 18 [.ref l0, .int l1, .int 1000, .int 0] [] rfl ?_
      exact e55_18 d 1100 _ _ _ _ _ _ h
    · rw [if_neg hb] at h
      refine rn_steps 0 10 [.ref l0, .int l1, .retAddr 0, .retAddr 0] [] rfl ?_
      exact e55_10 d _ _ _ _ _ _ h
/-- LastAsked$Wills.<init>()V -/
noncomputable def f56 (l0 : Nat) (σ : xM) : Option xM :=
  (nA σ 11 6).bind fun σ1 =>
  (pR σ1 l0 6 0 (mN σ)).bind fun σ2 =>
  some σ2
set_option maxRecDepth 20000 in
set_option maxHeartbeats 1000000 in
theorem e56 (d : Nat) {l0 : Nat} {σ : xM} {y : xM} (h : f56 l0 σ = some y) : Rn (d + 1) 56 0 [.ref l0] [] σ (none, y) := by
  unfold f56 at h
  refine rn_steps 4 7 [.ref l0] [.int 6, .ref l0] rfl ?_
  obtain ⟨σ1, hσ1, h⟩ := Option.bind_eq_some_iff.mp h
  refine rn_nA rfl hσ1 ?_
  refine rn_steps 0 9 [.ref l0] [.ref (mN σ), .ref l0] rfl ?_
  obtain ⟨σ2, hσ2, h⟩ := Option.bind_eq_some_iff.mp h
  refine rn_pR (c := 6) (f := 0) rfl rfl ⟨⟨rfl, rfl⟩, rfl⟩ hσ2 ?_
  refine rn_steps 0 12 [.ref l0] [] rfl ?_
  cases h
  exact rn_ret rfl rfl rfl
noncomputable def f57_39 (σ : xM) : Option xM :=
  some σ
set_option maxRecDepth 20000 in
set_option maxHeartbeats 1000000 in
theorem e57_39 (d : Nat) (x0 x1 x2 x3 : Value) (σ : xM) (y : xM) (h : f57_39 σ = some y) : Rn (d + 2) 57 39 [x0, x1, x2, x3] [] σ (none, y) := by
  unfold f57_39 at h
  cases h
  exact rn_ret rfl rfl rfl
noncomputable def f57_32 (K2 : Nat → Nat → Int32 → Int32 → xM → Option xM) (l0 : Nat) (l1 : Nat) (l2 : Int32) (l3 : Int32) (s0 : Int32) (s1 : Int32) (s2 : Nat) (σ : xM) : Option xM :=
  (tI σ s2 s1 s0).bind fun σ1 =>
  K2 l0 l1 l2 (l3 + 1) σ1
set_option maxRecDepth 20000 in
set_option maxHeartbeats 1000000 in
theorem e57_32 (d : Nat) (K2 : Nat → Nat → Int32 → Int32 → xM → Option xM) (hK2 : ∀ (l0 : Nat) (l1 : Nat) (l2 : Int32) (l3 : Int32) (σ : xM) (y : xM), K2 l0 l1 l2 l3 σ = some y → Rn (d + 2) 57 2 [.ref l0, .ref l1, .int l2, .int l3] [] σ (none, y)) (l0 : Nat) (l1 : Nat) (l2 : Int32) (l3 : Int32) (s0 : Int32) (s1 : Int32) (s2 : Nat) (σ : xM) (y : xM) (h : f57_32 K2 l0 l1 l2 l3 s0 s1 s2 σ = some y) : Rn (d + 2) 57 32 [.ref l0, .ref l1, .int l2, .int l3] [.int s0, .int s1, .ref s2] σ (none, y) := by
  unfold f57_32 at h
  obtain ⟨σ1, hσ1, h⟩ := Option.bind_eq_some_iff.mp h
  refine rn_tI rfl hσ1 ?_
  refine rn_steps 2 2 [.ref l0, .ref l1, .int l2, .int (l3 + 1)] [] rfl ?_
  exact hK2 _ _ _ _ _ _ h
noncomputable def f57_2 : Nat → Nat → Nat → Int32 → Int32 → xM → Option xM
  | 0, _, _, _, _, _ => none
  | n + 1, l0, l1, l2, l3, σ =>
    if 6 ≤ l3 then
    f57_39 σ
    else
    (gR σ l0 6 0).bind fun r1 =>
    (f124 l2 l3 σ).bind fun y2 =>
    if y2.1 = 0 then
    f57_32 (f57_2 n) l0 l1 l2 l3 (-2) l3 r1 y2.2
    else
    (f58 l1 l2 l3 y2.2).bind fun y3 =>
    f57_32 (f57_2 n) l0 l1 l2 l3 y3.1 l3 r1 y3.2
set_option maxRecDepth 20000 in
set_option maxHeartbeats 1000000 in
theorem e57_2 (d : Nat) : ∀ (n : Nat) (l0 : Nat) (l1 : Nat) (l2 : Int32) (l3 : Int32) (σ : xM) (y : xM), f57_2 n l0 l1 l2 l3 σ = some y → Rn (d + 2) 57 2 [.ref l0, .ref l1, .int l2, .int l3] [] σ (none, y) := by
  intro n
  induction n with
  | zero => intro l0 l1 l2 l3 σ y h; cases h
  | succ n ih =>
    intro l0 l1 l2 l3 σ y h
    unfold f57_2 at h
    refine rn_steps 2 5 [.ref l0, .ref l1, .int l2, .int l3] [.int 6, .int l3] rfl ?_
    refine rn_br (c := 6 ≤ l3) rfl rfl decide_eq_true_iff (fun hb => ?_) (fun hb => ?_)
    · rw [if_pos hb] at h
      refine rn_steps 0 39 [.ref l0, .ref l1, .int l2, .int l3] [] rfl ?_
      exact e57_39 d _ _ _ _ _ _ h
    · rw [if_neg hb] at h
      refine rn_steps 1 9 [.ref l0, .ref l1, .int l2, .int l3] [.ref l0] rfl ?_
      obtain ⟨r1, hr1, h⟩ := Option.bind_eq_some_iff.mp h
      refine rn_gR (c := 6) (f := 0) rfl rfl ⟨⟨rfl, rfl⟩, rfl⟩ hr1 ?_
      refine rn_steps 3 15 [.ref l0, .ref l1, .int l2, .int l3] [.int l3, .int l2, .int l3, .ref r1] rfl ?_
      obtain ⟨y2, hy2, h⟩ := Option.bind_eq_some_iff.mp h
      refine rn_callS [.int l2, .int l3] rfl rfl rfl ⟨rfl, rfl, rfl⟩ rfl rfl (e124 (d + 1) hy2) ?_
      refine rn_steps 0 18 [.ref l0, .ref l1, .int l2, .int l3] [.int y2.1, .int l3, .ref r1] rfl ?_
      refine rn_br (c := y2.1 = 0) rfl rfl decide_eq_true_iff (fun hb => ?_) (fun hb => ?_)
      · rw [if_pos hb] at h
        refine rn_steps 1 32 [.ref l0, .ref l1, .int l2, .int l3] [.int (-2), .int l3, .ref r1] rfl ?_
        exact e57_32 d _ ih _ _ _ _ _ _ _ _ _ h
      · rw [if_neg hb] at h
        refine rn_steps 3 24 [.ref l0, .ref l1, .int l2, .int l3] [.int l3, .int l2, .ref l1, .int l3, .ref r1] rfl ?_
        obtain ⟨y3, hy3, h⟩ := Option.bind_eq_some_iff.mp h
        refine rn_callS [.ref l1, .int l2, .int l3] rfl rfl rfl ⟨rfl, rfl, rfl⟩ rfl rfl (e58 d hy3) ?_
        refine rn_steps 1 32 [.ref l0, .ref l1, .int l2, .int l3] [.int y3.1, .int l3, .ref r1] rfl ?_
        exact e57_32 d _ ih _ _ _ _ _ _ _ _ _ h
/-- LastAsked$Wills.read([II)V -/
noncomputable def f57 (l0 : Nat) (l1 : Nat) (l2 : Int32) (σ : xM) : Option xM :=
  f57_2 1100 l0 l1 l2 0 σ
set_option maxRecDepth 20000 in
set_option maxHeartbeats 1000000 in
theorem e57 (d : Nat) {l0 : Nat} {l1 : Nat} {l2 : Int32} {σ : xM} {y : xM} (h : f57 l0 l1 l2 σ = some y) : Rn (d + 2) 57 0 [.ref l0, .ref l1, .int l2, .retAddr 0] [] σ (none, y) := by
  unfold f57 at h
  refine rn_steps 2 2 [.ref l0, .ref l1, .int l2, .int 0] [] rfl ?_
  exact e57_2 d 1100 _ _ _ _ _ _ h
noncomputable def f60_52 (σ : xM) : Option (Int32 × xM) :=
  some ((-1), σ)
set_option maxRecDepth 20000 in
set_option maxHeartbeats 1000000 in
theorem e60_52 (d : Nat) (x0 x1 x2 x3 x4 x5 : Value) (σ : xM) (y : Int32 × xM) (h : f60_52 σ = some y) : Rn (d + 0) 60 52 [x0, x1, x2, x3, x4, x5] [] σ (some (.int y.1), y.2) := by
  unfold f60_52 at h
  refine rn_steps 1 53 [x0, x1, x2, x3, x4, x5] [.int (-1)] rfl ?_
  cases h
  exact rn_ret rfl rfl rfl
noncomputable def f60_8 : Nat → Nat → Int32 → Int32 → Int32 → Int32 → xM → Option (Int32 × xM)
  | 0, _, _, _, _, _, _ => none
  | n + 1, l0, l2, l3, l4, l5, σ =>
    if 6 ≤ l5 then
    f60_52 σ
    else
    if l4 = (-2) then
    f60_52 σ
    else
    if l4 = l2 then
    some (l3, σ)
    else
    (gR σ l0 6 0).bind fun r1 =>
    (aI σ r1 l4).bind fun v2 =>
    (f60_8 n) l0 l2 (l3 ||| (1 <<< (l4 &&& 31))) v2 (l5 + 1) σ
set_option maxRecDepth 20000 in
set_option maxHeartbeats 1000000 in
theorem e60_8 (d : Nat) : ∀ (n : Nat) (l0 : Nat) (l2 : Int32) (l3 : Int32) (l4 : Int32) (l5 : Int32) (x1 : Value) (σ : xM) (y : Int32 × xM), f60_8 n l0 l2 l3 l4 l5 σ = some y → Rn (d + 0) 60 8 [.ref l0, x1, .int l2, .int l3, .int l4, .int l5] [] σ (some (.int y.1), y.2) := by
  intro n
  induction n with
  | zero => intro l0 l2 l3 l4 l5 x1 σ y h; cases h
  | succ n ih =>
    intro l0 l2 l3 l4 l5 x1 σ y h
    unfold f60_8 at h
    refine rn_steps 2 12 [.ref l0, x1, .int l2, .int l3, .int l4, .int l5] [.int 6, .int l5] rfl ?_
    refine rn_br (c := 6 ≤ l5) rfl rfl decide_eq_true_iff (fun hb => ?_) (fun hb => ?_)
    · rw [if_pos hb] at h
      refine rn_steps 0 52 [.ref l0, x1, .int l2, .int l3, .int l4, .int l5] [] rfl ?_
      exact e60_52 d _ _ _ _ _ _ _ _ h
    · rw [if_neg hb] at h
      refine rn_steps 2 19 [.ref l0, x1, .int l2, .int l3, .int l4, .int l5] [.int (-2), .int l4] rfl ?_
      refine rn_br (c := l4 = (-2)) rfl rfl decide_eq_true_iff (fun hb => ?_) (fun hb => ?_)
      · rw [if_pos hb] at h
        refine rn_steps 0 52 [.ref l0, x1, .int l2, .int l3, .int l4, .int l5] [] rfl ?_
        exact e60_52 d _ _ _ _ _ _ _ _ h
      · rw [if_neg hb] at h
        refine rn_steps 2 25 [.ref l0, x1, .int l2, .int l3, .int l4, .int l5] [.int l2, .int l4] rfl ?_
        refine rn_br (c := ¬ l4 = l2) rfl rfl decide_eq_true_iff (fun hb => ?_) (fun hb => ?_)
        · rw [if_neg hb] at h
          refine rn_steps 7 38 [.ref l0, x1, .int l2, .int (l3 ||| (1 <<< (l4 &&& 31))), .int l4, .int l5] [.ref l0] rfl ?_
          obtain ⟨r1, hr1, h⟩ := Option.bind_eq_some_iff.mp h
          refine rn_gR (c := 6) (f := 0) rfl rfl ⟨⟨rfl, rfl⟩, rfl⟩ hr1 ?_
          refine rn_steps 1 43 [.ref l0, x1, .int l2, .int (l3 ||| (1 <<< (l4 &&& 31))), .int l4, .int l5] [.int l4, .ref r1] rfl ?_
          obtain ⟨v2, hv2, h⟩ := Option.bind_eq_some_iff.mp h
          refine rn_aI rfl hv2 ?_
          refine rn_steps 3 8 [.ref l0, x1, .int l2, .int (l3 ||| (1 <<< (l4 &&& 31))), .int v2, .int (l5 + 1)] [] rfl ?_
          exact ih _ _ _ _ _ _ _ _ h
        · rw [if_pos (Decidable.not_not.mp hb)] at h
          refine rn_steps 1 29 [.ref l0, x1, .int l2, .int l3, .int l4, .int l5] [.int l3] rfl ?_
          cases h
          exact rn_ret rfl rfl rfl
/-- LastAsked$Wills.between(II)I -/
noncomputable def f60 (l0 : Nat) (l1 : Int32) (l2 : Int32) (σ : xM) : Option (Int32 × xM) :=
  f60_8 1100 l0 l2 0 l1 0 σ
set_option maxRecDepth 20000 in
set_option maxHeartbeats 1000000 in
theorem e60 (d : Nat) {l0 : Nat} {l1 : Int32} {l2 : Int32} {σ : xM} {y : Int32 × xM} (h : f60 l0 l1 l2 σ = some y) : Rn (d + 0) 60 0 [.ref l0, .int l1, .int l2, .retAddr 0, .retAddr 0, .retAddr 0] [] σ (some (.int y.1), y.2) := by
  unfold f60 at h
  refine rn_steps 6 8 [.ref l0, .int l1, .int l2, .int 0, .int l1, .int 0] [] rfl ?_
  exact e60_8 d 1100 _ _ _ _ _ _ _ _ h
noncomputable def f61_39 (l2 : Int32) (σ : xM) : Option (Int32 × xM) :=
  some (l2, σ)
set_option maxRecDepth 20000 in
set_option maxHeartbeats 1000000 in
theorem e61_39 (d : Nat) (l2 : Int32) (x0 x1 x3 x4 : Value) (σ : xM) (y : Int32 × xM) (h : f61_39 l2 σ = some y) : Rn (d + 0) 61 39 [x0, x1, .int l2, x3, x4] [] σ (some (.int y.1), y.2) := by
  unfold f61_39 at h
  refine rn_steps 1 40 [x0, x1, .int l2, x3, x4] [.int l2] rfl ?_
  cases h
  exact rn_ret rfl rfl rfl
noncomputable def f61_7 : Nat → Nat → Int32 → Int32 → Int32 → xM → Option (Int32 × xM)
  | 0, _, _, _, _, _ => none
  | n + 1, l0, l2, l3, l4, σ =>
    if 6 ≤ l4 then
    f61_39 l2 σ
    else
    if l3 = (-2) then
    f61_39 l2 σ
    else
    (gR σ l0 6 0).bind fun r1 =>
    (aI σ r1 l3).bind fun v2 =>
    (f61_7 n) l0 (l2 ||| (1 <<< (l3 &&& 31))) v2 (l4 + 1) σ
set_option maxRecDepth 20000 in
set_option maxHeartbeats 1000000 in
theorem e61_7 (d : Nat) : ∀ (n : Nat) (l0 : Nat) (l2 : Int32) (l3 : Int32) (l4 : Int32) (x1 : Value) (σ : xM) (y : Int32 × xM), f61_7 n l0 l2 l3 l4 σ = some y → Rn (d + 0) 61 7 [.ref l0, x1, .int l2, .int l3, .int l4] [] σ (some (.int y.1), y.2) := by
  intro n
  induction n with
  | zero => intro l0 l2 l3 l4 x1 σ y h; cases h
  | succ n ih =>
    intro l0 l2 l3 l4 x1 σ y h
    unfold f61_7 at h
    refine rn_steps 2 11 [.ref l0, x1, .int l2, .int l3, .int l4] [.int 6, .int l4] rfl ?_
    refine rn_br (c := 6 ≤ l4) rfl rfl decide_eq_true_iff (fun hb => ?_) (fun hb => ?_)
    · rw [if_pos hb] at h
      refine rn_steps 0 39 [.ref l0, x1, .int l2, .int l3, .int l4] [] rfl ?_
      exact e61_39 d _ _ _ _ _ _ _ h
    · rw [if_neg hb] at h
      refine rn_steps 2 17 [.ref l0, x1, .int l2, .int l3, .int l4] [.int (-2), .int l3] rfl ?_
      refine rn_br (c := l3 = (-2)) rfl rfl decide_eq_true_iff (fun hb => ?_) (fun hb => ?_)
      · rw [if_pos hb] at h
        refine rn_steps 0 39 [.ref l0, x1, .int l2, .int l3, .int l4] [] rfl ?_
        exact e61_39 d _ _ _ _ _ _ _ h
      · rw [if_neg hb] at h
        refine rn_steps 7 27 [.ref l0, x1, .int (l2 ||| (1 <<< (l3 &&& 31))), .int l3, .int l4] [.ref l0] rfl ?_
        obtain ⟨r1, hr1, h⟩ := Option.bind_eq_some_iff.mp h
        refine rn_gR (c := 6) (f := 0) rfl rfl ⟨⟨rfl, rfl⟩, rfl⟩ hr1 ?_
        refine rn_steps 1 31 [.ref l0, x1, .int (l2 ||| (1 <<< (l3 &&& 31))), .int l3, .int l4] [.int l3, .ref r1] rfl ?_
        obtain ⟨v2, hv2, h⟩ := Option.bind_eq_some_iff.mp h
        refine rn_aI rfl hv2 ?_
        refine rn_steps 3 7 [.ref l0, x1, .int (l2 ||| (1 <<< (l3 &&& 31))), .int v2, .int (l4 + 1)] [] rfl ?_
        exact ih _ _ _ _ _ _ _ h
/-- LastAsked$Wills.untilCat(I)I -/
noncomputable def f61 (l0 : Nat) (l1 : Int32) (σ : xM) : Option (Int32 × xM) :=
  f61_7 1100 l0 0 l1 0 σ
set_option maxRecDepth 20000 in
set_option maxHeartbeats 1000000 in
theorem e61 (d : Nat) {l0 : Nat} {l1 : Int32} {σ : xM} {y : Int32 × xM} (h : f61 l0 l1 σ = some y) : Rn (d + 0) 61 0 [.ref l0, .int l1, .retAddr 0, .retAddr 0, .retAddr 0] [] σ (some (.int y.1), y.2) := by
  unfold f61 at h
  refine rn_steps 6 7 [.ref l0, .int l1, .int 0, .int l1, .int 0] [] rfl ?_
  exact e61_7 d 1100 _ _ _ _ _ _ _ h
noncomputable def f62_41 (σ : xM) : Option (Int32 × xM) :=
  rZ 0 σ
set_option maxRecDepth 20000 in
set_option maxHeartbeats 1000000 in
theorem e62_41 (d : Nat) (x0 x1 x2 x3 : Value) (σ : xM) (y : Int32 × xM) (h : f62_41 σ = some y) : Rn (d + 0) 62 41 [x0, x1, x2, x3] [] σ (some (.int y.1), y.2) := by
  unfold f62_41 at h
  refine rn_steps 1 42 [x0, x1, x2, x3] [.int 0] rfl ?_
  exact rn_retZ rfl rfl h
noncomputable def f62_9 : Nat → Nat → Int32 → Int32 → Int32 → xM → Option (Int32 × xM)
  | 0, _, _, _, _, _ => none
  | n + 1, l0, l1, l2, l3, σ =>
    if 6 ≤ l3 then
    f62_41 σ
    else
    if l2 = (-2) then
    f62_41 σ
    else
    if l2 = l1 then
    rZ 1 σ
    else
    (gR σ l0 6 0).bind fun r1 =>
    (aI σ r1 l2).bind fun v2 =>
    (f62_9 n) l0 l1 v2 (l3 + 1) σ
set_option maxRecDepth 20000 in
set_option maxHeartbeats 1000000 in
theorem e62_9 (d : Nat) : ∀ (n : Nat) (l0 : Nat) (l1 : Int32) (l2 : Int32) (l3 : Int32) (σ : xM) (y : Int32 × xM), f62_9 n l0 l1 l2 l3 σ = some y → Rn (d + 0) 62 9 [.ref l0, .int l1, .int l2, .int l3] [] σ (some (.int y.1), y.2) := by
  intro n
  induction n with
  | zero => intro l0 l1 l2 l3 σ y h; cases h
  | succ n ih =>
    intro l0 l1 l2 l3 σ y h
    unfold f62_9 at h
    refine rn_steps 2 12 [.ref l0, .int l1, .int l2, .int l3] [.int 6, .int l3] rfl ?_
    refine rn_br (c := 6 ≤ l3) rfl rfl decide_eq_true_iff (fun hb => ?_) (fun hb => ?_)
    · rw [if_pos hb] at h
      refine rn_steps 0 41 [.ref l0, .int l1, .int l2, .int l3] [] rfl ?_
      exact e62_41 d _ _ _ _ _ _ h
    · rw [if_neg hb] at h
      refine rn_steps 2 18 [.ref l0, .int l1, .int l2, .int l3] [.int (-2), .int l2] rfl ?_
      refine rn_br (c := l2 = (-2)) rfl rfl decide_eq_true_iff (fun hb => ?_) (fun hb => ?_)
      · rw [if_pos hb] at h
        refine rn_steps 0 41 [.ref l0, .int l1, .int l2, .int l3] [] rfl ?_
        exact e62_41 d _ _ _ _ _ _ h
      · rw [if_neg hb] at h
        refine rn_steps 2 23 [.ref l0, .int l1, .int l2, .int l3] [.int l1, .int l2] rfl ?_
        refine rn_br (c := ¬ l2 = l1) rfl rfl decide_eq_true_iff (fun hb => ?_) (fun hb => ?_)
        · rw [if_neg hb] at h
          refine rn_steps 1 29 [.ref l0, .int l1, .int l2, .int l3] [.ref l0] rfl ?_
          obtain ⟨r1, hr1, h⟩ := Option.bind_eq_some_iff.mp h
          refine rn_gR (c := 6) (f := 0) rfl rfl ⟨⟨rfl, rfl⟩, rfl⟩ hr1 ?_
          refine rn_steps 1 33 [.ref l0, .int l1, .int l2, .int l3] [.int l2, .ref r1] rfl ?_
          obtain ⟨v2, hv2, h⟩ := Option.bind_eq_some_iff.mp h
          refine rn_aI rfl hv2 ?_
          refine rn_steps 3 9 [.ref l0, .int l1, .int v2, .int (l3 + 1)] [] rfl ?_
          exact ih _ _ _ _ _ _ h
        · rw [if_pos (Decidable.not_not.mp hb)] at h
          refine rn_steps 1 27 [.ref l0, .int l1, .int l2, .int l3] [.int 1] rfl ?_
          exact rn_retZ rfl rfl h
/-- LastAsked$Wills.comesBack(I)Z -/
noncomputable def f62 (l0 : Nat) (l1 : Int32) (σ : xM) : Option (Int32 × xM) :=
  (gR σ l0 6 0).bind fun r1 =>
  (aI σ r1 l1).bind fun v2 =>
  f62_9 1100 l0 l1 v2 0 σ
set_option maxRecDepth 20000 in
set_option maxHeartbeats 1000000 in
theorem e62 (d : Nat) {l0 : Nat} {l1 : Int32} {σ : xM} {y : Int32 × xM} (h : f62 l0 l1 σ = some y) : Rn (d + 0) 62 0 [.ref l0, .int l1, .retAddr 0, .retAddr 0] [] σ (some (.int y.1), y.2) := by
  unfold f62 at h
  refine rn_steps 1 1 [.ref l0, .int l1, .retAddr 0, .retAddr 0] [.ref l0] rfl ?_
  obtain ⟨r1, hr1, h⟩ := Option.bind_eq_some_iff.mp h
  refine rn_gR (c := 6) (f := 0) rfl rfl ⟨⟨rfl, rfl⟩, rfl⟩ hr1 ?_
  refine rn_steps 1 5 [.ref l0, .int l1, .retAddr 0, .retAddr 0] [.int l1, .ref r1] rfl ?_
  obtain ⟨v2, hv2, h⟩ := Option.bind_eq_some_iff.mp h
  refine rn_aI rfl hv2 ?_
  refine rn_steps 3 9 [.ref l0, .int l1, .int v2, .int 0] [] rfl ?_
  exact e62_9 d 1100 _ _ _ _ _ _ h
/-- LastAsked.<init>()V -/
noncomputable def f63 (l0 : Nat) (σ : xM) : Option xM :=
  (nO σ 3).bind fun σ1 =>
  (f22 (mN σ) σ1).bind fun y2 =>
  (pR y2 l0 7 0 (mN σ)).bind fun σ3 =>
  (nO σ3 0).bind fun σ4 =>
  (f0 (mN σ3) σ4).bind fun y5 =>
  (pR y5 l0 7 1 (mN σ3)).bind fun σ6 =>
  (nO σ6 4).bind fun σ7 =>
  (f45 (mN σ6) σ7).bind fun y8 =>
  (pR y8 l0 7 2 (mN σ6)).bind fun σ9 =>
  (nO σ9 4).bind fun σ10 =>
  (f45 (mN σ9) σ10).bind fun y11 =>
  (pR y11 l0 7 3 (mN σ9)).bind fun σ12 =>
  (nO σ12 2).bind fun σ13 =>
  (f16 (mN σ12) σ13).bind fun y14 =>
  (pR y14 l0 7 4 (mN σ12)).bind fun σ15 =>
  (nO σ15 6).bind fun σ16 =>
  (f56 (mN σ15) σ16).bind fun y17 =>
  (pR y17 l0 7 5 (mN σ15)).bind fun σ18 =>
  (nO σ18 5).bind fun σ19 =>
  (f52 (mN σ18) σ19).bind fun y20 =>
  (pR y20 l0 7 6 (mN σ18)).bind fun σ21 =>
  (nO σ21 1).bind fun σ22 =>
  (f6 (mN σ21) σ22).bind fun y23 =>
  (pR y23 l0 7 7 (mN σ21)).bind fun σ24 =>
  (pI σ24 l0 7 8 0).bind fun σ25 =>
  (pI σ25 l0 7 9 0).bind fun σ26 =>
  some σ26
set_option maxRecDepth 20000 in
set_option maxHeartbeats 1000000 in
theorem e63 (d : Nat) {l0 : Nat} {σ : xM} {y : xM} (h : f63 l0 σ = some y) : Rn (d + 3) 63 0 [.ref l0] [] σ (none, y) := by
  unfold f63 at h
  refine rn_steps 3 5 [.ref l0] [.ref l0] rfl ?_
  obtain ⟨σ1, hσ1, h⟩ := Option.bind_eq_some_iff.mp h
  refine rn_nO rfl hσ1 ?_
  refine rn_steps 1 9 [.ref l0] [.ref (mN σ), .ref (mN σ), .ref l0] rfl ?_
  obtain ⟨y2, hy2, h⟩ := Option.bind_eq_some_iff.mp h
  refine rn_callI [] rfl rfl rfl rfl rfl rfl (e22 d hy2) ?_
  refine rn_steps 0 12 [.ref l0] [.ref (mN σ), .ref l0] rfl ?_
  obtain ⟨σ3, hσ3, h⟩ := Option.bind_eq_some_iff.mp h
  refine rn_pR (c := 7) (f := 0) rfl rfl ⟨⟨rfl, rfl⟩, rfl⟩ hσ3 ?_
  refine rn_steps 1 16 [.ref l0] [.ref l0] rfl ?_
  obtain ⟨σ4, hσ4, h⟩ := Option.bind_eq_some_iff.mp h
  refine rn_nO rfl hσ4 ?_
  refine rn_steps 1 20 [.ref l0] [.ref (mN σ3), .ref (mN σ3), .ref l0] rfl ?_
  obtain ⟨y5, hy5, h⟩ := Option.bind_eq_some_iff.mp h
  refine rn_callI [] rfl rfl rfl rfl rfl rfl (e0 (d + 1) hy5) ?_
  refine rn_steps 0 23 [.ref l0] [.ref (mN σ3), .ref l0] rfl ?_
  obtain ⟨σ6, hσ6, h⟩ := Option.bind_eq_some_iff.mp h
  refine rn_pR (c := 7) (f := 1) rfl rfl ⟨⟨rfl, rfl⟩, rfl⟩ hσ6 ?_
  refine rn_steps 1 27 [.ref l0] [.ref l0] rfl ?_
  obtain ⟨σ7, hσ7, h⟩ := Option.bind_eq_some_iff.mp h
  refine rn_nO rfl hσ7 ?_
  refine rn_steps 1 31 [.ref l0] [.ref (mN σ6), .ref (mN σ6), .ref l0] rfl ?_
  obtain ⟨y8, hy8, h⟩ := Option.bind_eq_some_iff.mp h
  refine rn_callI [] rfl rfl rfl rfl rfl rfl (e45 (d + 1) hy8) ?_
  refine rn_steps 0 34 [.ref l0] [.ref (mN σ6), .ref l0] rfl ?_
  obtain ⟨σ9, hσ9, h⟩ := Option.bind_eq_some_iff.mp h
  refine rn_pR (c := 7) (f := 2) rfl rfl ⟨⟨rfl, rfl⟩, rfl⟩ hσ9 ?_
  refine rn_steps 1 38 [.ref l0] [.ref l0] rfl ?_
  obtain ⟨σ10, hσ10, h⟩ := Option.bind_eq_some_iff.mp h
  refine rn_nO rfl hσ10 ?_
  refine rn_steps 1 42 [.ref l0] [.ref (mN σ9), .ref (mN σ9), .ref l0] rfl ?_
  obtain ⟨y11, hy11, h⟩ := Option.bind_eq_some_iff.mp h
  refine rn_callI [] rfl rfl rfl rfl rfl rfl (e45 (d + 1) hy11) ?_
  refine rn_steps 0 45 [.ref l0] [.ref (mN σ9), .ref l0] rfl ?_
  obtain ⟨σ12, hσ12, h⟩ := Option.bind_eq_some_iff.mp h
  refine rn_pR (c := 7) (f := 3) rfl rfl ⟨⟨rfl, rfl⟩, rfl⟩ hσ12 ?_
  refine rn_steps 1 49 [.ref l0] [.ref l0] rfl ?_
  obtain ⟨σ13, hσ13, h⟩ := Option.bind_eq_some_iff.mp h
  refine rn_nO rfl hσ13 ?_
  refine rn_steps 1 53 [.ref l0] [.ref (mN σ12), .ref (mN σ12), .ref l0] rfl ?_
  obtain ⟨y14, hy14, h⟩ := Option.bind_eq_some_iff.mp h
  refine rn_callI [] rfl rfl rfl rfl rfl rfl (e16 d hy14) ?_
  refine rn_steps 0 56 [.ref l0] [.ref (mN σ12), .ref l0] rfl ?_
  obtain ⟨σ15, hσ15, h⟩ := Option.bind_eq_some_iff.mp h
  refine rn_pR (c := 7) (f := 4) rfl rfl ⟨⟨rfl, rfl⟩, rfl⟩ hσ15 ?_
  refine rn_steps 1 60 [.ref l0] [.ref l0] rfl ?_
  obtain ⟨σ16, hσ16, h⟩ := Option.bind_eq_some_iff.mp h
  refine rn_nO rfl hσ16 ?_
  refine rn_steps 1 64 [.ref l0] [.ref (mN σ15), .ref (mN σ15), .ref l0] rfl ?_
  obtain ⟨y17, hy17, h⟩ := Option.bind_eq_some_iff.mp h
  refine rn_callI [] rfl rfl rfl rfl rfl rfl (e56 (d + 1) hy17) ?_
  refine rn_steps 0 67 [.ref l0] [.ref (mN σ15), .ref l0] rfl ?_
  obtain ⟨σ18, hσ18, h⟩ := Option.bind_eq_some_iff.mp h
  refine rn_pR (c := 7) (f := 5) rfl rfl ⟨⟨rfl, rfl⟩, rfl⟩ hσ18 ?_
  refine rn_steps 1 71 [.ref l0] [.ref l0] rfl ?_
  obtain ⟨σ19, hσ19, h⟩ := Option.bind_eq_some_iff.mp h
  refine rn_nO rfl hσ19 ?_
  refine rn_steps 1 75 [.ref l0] [.ref (mN σ18), .ref (mN σ18), .ref l0] rfl ?_
  obtain ⟨y20, hy20, h⟩ := Option.bind_eq_some_iff.mp h
  refine rn_callI [] rfl rfl rfl rfl rfl rfl (e52 (d + 1) hy20) ?_
  refine rn_steps 0 78 [.ref l0] [.ref (mN σ18), .ref l0] rfl ?_
  obtain ⟨σ21, hσ21, h⟩ := Option.bind_eq_some_iff.mp h
  refine rn_pR (c := 7) (f := 6) rfl rfl ⟨⟨rfl, rfl⟩, rfl⟩ hσ21 ?_
  refine rn_steps 1 82 [.ref l0] [.ref l0] rfl ?_
  obtain ⟨σ22, hσ22, h⟩ := Option.bind_eq_some_iff.mp h
  refine rn_nO rfl hσ22 ?_
  refine rn_steps 1 86 [.ref l0] [.ref (mN σ21), .ref (mN σ21), .ref l0] rfl ?_
  obtain ⟨y23, hy23, h⟩ := Option.bind_eq_some_iff.mp h
  refine rn_callI [] rfl rfl rfl rfl rfl rfl (e6 (d + 1) hy23) ?_
  refine rn_steps 0 89 [.ref l0] [.ref (mN σ21), .ref l0] rfl ?_
  obtain ⟨σ24, hσ24, h⟩ := Option.bind_eq_some_iff.mp h
  refine rn_pR (c := 7) (f := 7) rfl rfl ⟨⟨rfl, rfl⟩, rfl⟩ hσ24 ?_
  refine rn_steps 2 94 [.ref l0] [.int 0, .ref l0] rfl ?_
  obtain ⟨σ25, hσ25, h⟩ := Option.bind_eq_some_iff.mp h
  refine rn_pI (c := 7) (f := 8) rfl rfl ⟨⟨rfl, rfl⟩, rfl⟩ hσ25 ?_
  refine rn_steps 2 99 [.ref l0] [.int 0, .ref l0] rfl ?_
  obtain ⟨σ26, hσ26, h⟩ := Option.bind_eq_some_iff.mp h
  refine rn_pI (c := 7) (f := 9) rfl rfl ⟨⟨rfl, rfl⟩, rfl⟩ hσ26 ?_
  refine rn_steps 0 102 [.ref l0] [] rfl ?_
  cases h
  exact rn_ret rfl rfl rfl
/-- LastAsked.feed(IIIII)I -/
noncomputable def f64 (l0 : Nat) (l1 : Int32) (l2 : Int32) (l3 : Int32) (l4 : Int32) (l5 : Int32) (σ : xM) : Option (Int32 × xM) :=
  (gR σ l0 7 0).bind fun r1 =>
  (gI σ r1 3 0).bind fun v2 =>
  if (v2 + 20) ≤ 900 then
  (gR σ l0 7 0).bind fun r3 =>
  (cO σ r3 3).bind fun u19 =>
  (f23 r3 l1 σ).bind fun y4 =>
  (gR y4 l0 7 0).bind fun r5 =>
  (cO y4 r5 3).bind fun u18 =>
  (f23 r5 l2 y4).bind fun y6 =>
  (gR y6 l0 7 0).bind fun r7 =>
  (cO y6 r7 3).bind fun u17 =>
  (f23 r7 l3 y6).bind fun y8 =>
  (gR y8 l0 7 0).bind fun r9 =>
  (cO y8 r9 3).bind fun u16 =>
  (f23 r9 l4 y8).bind fun y10 =>
  (gR y10 l0 7 0).bind fun r11 =>
  (cO y10 r11 3).bind fun u15 =>
  (f23 r11 l5 y10).bind fun y12 =>
  (gR y12 l0 7 0).bind fun r13 =>
  (gI y12 r13 3 0).bind fun v14 =>
  some (v14, y12)
  else
  some ((-1), σ)
set_option maxRecDepth 20000 in
set_option maxHeartbeats 1000000 in
theorem e64 (d : Nat) {l0 : Nat} {l1 : Int32} {l2 : Int32} {l3 : Int32} {l4 : Int32} {l5 : Int32} {σ : xM} {y : Int32 × xM} (h : f64 l0 l1 l2 l3 l4 l5 σ = some y) : Rn (d + 1) 64 0 [.ref l0, .int l1, .int l2, .int l3, .int l4, .int l5] [] σ (some (.int y.1), y.2) := by
  unfold f64 at h
  refine rn_steps 1 1 [.ref l0, .int l1, .int l2, .int l3, .int l4, .int l5] [.ref l0] rfl ?_
  obtain ⟨r1, hr1, h⟩ := Option.bind_eq_some_iff.mp h
  refine rn_gR (c := 7) (f := 0) rfl rfl ⟨⟨rfl, rfl⟩, rfl⟩ hr1 ?_
  refine rn_steps 0 4 [.ref l0, .int l1, .int l2, .int l3, .int l4, .int l5] [.ref r1] rfl ?_
  obtain ⟨v2, hv2, h⟩ := Option.bind_eq_some_iff.mp h
  refine rn_gI (c := 3) (f := 0) rfl rfl ⟨⟨rfl, rfl⟩, Or.inl rfl⟩ hv2 ?_
  refine rn_steps 3 13 [.ref l0, .int l1, .int l2, .int l3, .int l4, .int l5] [.int 900, .int (v2 + 20)] rfl ?_
  refine rn_br (c := (v2 + 20) ≤ 900) rfl rfl decide_eq_true_iff (fun hb => ?_) (fun hb => ?_)
  · rw [if_pos hb] at h
    refine rn_steps 1 19 [.ref l0, .int l1, .int l2, .int l3, .int l4, .int l5] [.ref l0] rfl ?_
    obtain ⟨r3, hr3, h⟩ := Option.bind_eq_some_iff.mp h
    refine rn_gR (c := 7) (f := 0) rfl rfl ⟨⟨rfl, rfl⟩, rfl⟩ hr3 ?_
    refine rn_steps 1 23 [.ref l0, .int l1, .int l2, .int l3, .int l4, .int l5] [.int l1, .ref r3] rfl ?_
    obtain ⟨u19, hu19, h⟩ := Option.bind_eq_some_iff.mp h
    obtain ⟨y4, hy4, h⟩ := Option.bind_eq_some_iff.mp h
    refine rn_callV [.int l1] rfl rfl ⟨rfl, rfl⟩ hu19 rfl rfl (e23 d hy4) ?_
    refine rn_steps 1 27 [.ref l0, .int l1, .int l2, .int l3, .int l4, .int l5] [.ref l0] rfl ?_
    obtain ⟨r5, hr5, h⟩ := Option.bind_eq_some_iff.mp h
    refine rn_gR (c := 7) (f := 0) rfl rfl ⟨⟨rfl, rfl⟩, rfl⟩ hr5 ?_
    refine rn_steps 1 31 [.ref l0, .int l1, .int l2, .int l3, .int l4, .int l5] [.int l2, .ref r5] rfl ?_
    obtain ⟨u18, hu18, h⟩ := Option.bind_eq_some_iff.mp h
    obtain ⟨y6, hy6, h⟩ := Option.bind_eq_some_iff.mp h
    refine rn_callV [.int l2] rfl rfl ⟨rfl, rfl⟩ hu18 rfl rfl (e23 d hy6) ?_
    refine rn_steps 1 35 [.ref l0, .int l1, .int l2, .int l3, .int l4, .int l5] [.ref l0] rfl ?_
    obtain ⟨r7, hr7, h⟩ := Option.bind_eq_some_iff.mp h
    refine rn_gR (c := 7) (f := 0) rfl rfl ⟨⟨rfl, rfl⟩, rfl⟩ hr7 ?_
    refine rn_steps 1 39 [.ref l0, .int l1, .int l2, .int l3, .int l4, .int l5] [.int l3, .ref r7] rfl ?_
    obtain ⟨u17, hu17, h⟩ := Option.bind_eq_some_iff.mp h
    obtain ⟨y8, hy8, h⟩ := Option.bind_eq_some_iff.mp h
    refine rn_callV [.int l3] rfl rfl ⟨rfl, rfl⟩ hu17 rfl rfl (e23 d hy8) ?_
    refine rn_steps 1 43 [.ref l0, .int l1, .int l2, .int l3, .int l4, .int l5] [.ref l0] rfl ?_
    obtain ⟨r9, hr9, h⟩ := Option.bind_eq_some_iff.mp h
    refine rn_gR (c := 7) (f := 0) rfl rfl ⟨⟨rfl, rfl⟩, rfl⟩ hr9 ?_
    refine rn_steps 1 48 [.ref l0, .int l1, .int l2, .int l3, .int l4, .int l5] [.int l4, .ref r9] rfl ?_
    obtain ⟨u16, hu16, h⟩ := Option.bind_eq_some_iff.mp h
    obtain ⟨y10, hy10, h⟩ := Option.bind_eq_some_iff.mp h
    refine rn_callV [.int l4] rfl rfl ⟨rfl, rfl⟩ hu16 rfl rfl (e23 d hy10) ?_
    refine rn_steps 1 52 [.ref l0, .int l1, .int l2, .int l3, .int l4, .int l5] [.ref l0] rfl ?_
    obtain ⟨r11, hr11, h⟩ := Option.bind_eq_some_iff.mp h
    refine rn_gR (c := 7) (f := 0) rfl rfl ⟨⟨rfl, rfl⟩, rfl⟩ hr11 ?_
    refine rn_steps 1 57 [.ref l0, .int l1, .int l2, .int l3, .int l4, .int l5] [.int l5, .ref r11] rfl ?_
    obtain ⟨u15, hu15, h⟩ := Option.bind_eq_some_iff.mp h
    obtain ⟨y12, hy12, h⟩ := Option.bind_eq_some_iff.mp h
    refine rn_callV [.int l5] rfl rfl ⟨rfl, rfl⟩ hu15 rfl rfl (e23 d hy12) ?_
    refine rn_steps 1 61 [.ref l0, .int l1, .int l2, .int l3, .int l4, .int l5] [.ref l0] rfl ?_
    obtain ⟨r13, hr13, h⟩ := Option.bind_eq_some_iff.mp h
    refine rn_gR (c := 7) (f := 0) rfl rfl ⟨⟨rfl, rfl⟩, rfl⟩ hr13 ?_
    refine rn_steps 0 64 [.ref l0, .int l1, .int l2, .int l3, .int l4, .int l5] [.ref r13] rfl ?_
    obtain ⟨v14, hv14, h⟩ := Option.bind_eq_some_iff.mp h
    refine rn_gI (c := 3) (f := 0) rfl rfl ⟨⟨rfl, rfl⟩, Or.inl rfl⟩ hv14 ?_
    refine rn_steps 0 67 [.ref l0, .int l1, .int l2, .int l3, .int l4, .int l5] [.int v14] rfl ?_
    cases h
    exact rn_ret rfl rfl rfl
  · rw [if_neg hb] at h
    refine rn_steps 1 17 [.ref l0, .int l1, .int l2, .int l3, .int l4, .int l5] [.int (-1)] rfl ?_
    cases h
    exact rn_ret rfl rfl rfl
noncomputable def f114_14 (s0 : Int32) (σ : xM) : Option (Int32 × xM) :=
  rZ s0 σ
set_option maxRecDepth 20000 in
set_option maxHeartbeats 1000000 in
theorem e114_14 (d : Nat) (s0 : Int32) (x0 x1 : Value) (σ : xM) (y : Int32 × xM) (h : f114_14 s0 σ = some y) : Rn (d + 0) 114 14 [x0, x1] [.int s0] σ (some (.int y.1), y.2) := by
  unfold f114_14 at h
  exact rn_retZ rfl rfl h
/-- LastAsked.refused(I)Z -/
noncomputable def f114 (l0 : Nat) (l1 : Int32) (σ : xM) : Option (Int32 × xM) :=
  (pI σ l0 7 8 l1).bind fun σ1 =>
  if l1 = 0 then
  f114_14 0 σ1
  else
  f114_14 1 σ1
set_option maxRecDepth 20000 in
set_option maxHeartbeats 1000000 in
theorem e114 (d : Nat) {l0 : Nat} {l1 : Int32} {σ : xM} {y : Int32 × xM} (h : f114 l0 l1 σ = some y) : Rn (d + 0) 114 0 [.ref l0, .int l1] [] σ (some (.int y.1), y.2) := by
  unfold f114 at h
  refine rn_steps 2 2 [.ref l0, .int l1] [.int l1, .ref l0] rfl ?_
  obtain ⟨σ1, hσ1, h⟩ := Option.bind_eq_some_iff.mp h
  refine rn_pI (c := 7) (f := 8) rfl rfl ⟨⟨rfl, rfl⟩, rfl⟩ hσ1 ?_
  refine rn_steps 1 6 [.ref l0, .int l1] [.int l1] rfl ?_
  refine rn_br (c := l1 = 0) rfl rfl decide_eq_true_iff (fun hb => ?_) (fun hb => ?_)
  · rw [if_pos hb] at h
    refine rn_steps 1 14 [.ref l0, .int l1] [.int 0] rfl ?_
    exact e114_14 d _ _ _ _ _ h
  · rw [if_neg hb] at h
    refine rn_steps 2 14 [.ref l0, .int l1] [.int 1] rfl ?_
    exact e114_14 d _ _ _ _ _ h
noncomputable def f65_54 (l0 : Nat) (s0 : Int32) (s1 : Nat) (σ : xM) : Option (Int32 × xM) :=
  (cO σ s1 7).bind fun u16 =>
  (f114 s1 s0 σ).bind fun y1 =>
  if y1.1 = 0 then
  (gR y1.2 l0 7 1).bind fun r2 =>
  (gR y1.2 l0 7 0).bind fun r3 =>
  (gR y1.2 r3 3 2).bind fun r4 =>
  (cO y1.2 r2 0).bind fun u15 =>
  (f2 r2 r4 y1.2).bind fun y5 =>
  (gR y5 l0 7 2).bind fun r6 =>
  (gR y5 l0 7 1).bind fun r7 =>
  (cO y5 r6 4).bind fun u14 =>
  (f46 r6 r7 y5).bind fun y8 =>
  (gR y8 l0 7 4).bind fun r9 =>
  (cO y8 r9 2).bind fun u13 =>
  (f17 r9 y8).bind fun y10 =>
  (gR y10 l0 7 1).bind fun r11 =>
  (gI y10 r11 0 2).bind fun v12 =>
  some (v12, y10)
  else
  some ((-1), y1.2)
set_option maxRecDepth 20000 in
set_option maxHeartbeats 1000000 in
theorem e65_54 (d : Nat) (l0 : Nat) (s0 : Int32) (s1 : Nat) (x1 : Value) (σ : xM) (y : Int32 × xM) (h : f65_54 l0 s0 s1 σ = some y) : Rn (d + 7) 65 54 [.ref l0, x1] [.int s0, .ref s1] σ (some (.int y.1), y.2) := by
  unfold f65_54 at h
  obtain ⟨u16, hu16, h⟩ := Option.bind_eq_some_iff.mp h
  obtain ⟨y1, hy1, h⟩ := Option.bind_eq_some_iff.mp h
  refine rn_callV [.int s0] rfl rfl ⟨rfl, rfl⟩ hu16 rfl rfl (e114 (d + 6) hy1) ?_
  refine rn_steps 0 57 [.ref l0, x1] [.int y1.1] rfl ?_
  refine rn_br (c := y1.1 = 0) rfl rfl decide_eq_true_iff (fun hb => ?_) (fun hb => ?_)
  · rw [if_pos hb] at h
    refine rn_steps 1 63 [.ref l0, x1] [.ref l0] rfl ?_
    obtain ⟨r2, hr2, h⟩ := Option.bind_eq_some_iff.mp h
    refine rn_gR (c := 7) (f := 1) rfl rfl ⟨⟨rfl, rfl⟩, rfl⟩ hr2 ?_
    refine rn_steps 1 67 [.ref l0, x1] [.ref l0, .ref r2] rfl ?_
    obtain ⟨r3, hr3, h⟩ := Option.bind_eq_some_iff.mp h
    refine rn_gR (c := 7) (f := 0) rfl rfl ⟨⟨rfl, rfl⟩, rfl⟩ hr3 ?_
    refine rn_steps 0 70 [.ref l0, x1] [.ref r3, .ref r2] rfl ?_
    obtain ⟨r4, hr4, h⟩ := Option.bind_eq_some_iff.mp h
    refine rn_gR (c := 3) (f := 2) rfl rfl ⟨⟨rfl, rfl⟩, rfl⟩ hr4 ?_
    refine rn_steps 0 73 [.ref l0, x1] [.ref r4, .ref r2] rfl ?_
    obtain ⟨u15, hu15, h⟩ := Option.bind_eq_some_iff.mp h
    obtain ⟨y5, hy5, h⟩ := Option.bind_eq_some_iff.mp h
    refine rn_callV [.ref r4] rfl rfl ⟨rfl, rfl⟩ hu15 rfl rfl (e2 (d + 5) hy5) ?_
    refine rn_steps 1 77 [.ref l0, x1] [.ref l0] rfl ?_
    obtain ⟨r6, hr6, h⟩ := Option.bind_eq_some_iff.mp h
    refine rn_gR (c := 7) (f := 2) rfl rfl ⟨⟨rfl, rfl⟩, rfl⟩ hr6 ?_
    refine rn_steps 1 81 [.ref l0, x1] [.ref l0, .ref r6] rfl ?_
    obtain ⟨r7, hr7, h⟩ := Option.bind_eq_some_iff.mp h
    refine rn_gR (c := 7) (f := 1) rfl rfl ⟨⟨rfl, rfl⟩, rfl⟩ hr7 ?_
    refine rn_steps 0 84 [.ref l0, x1] [.ref r7, .ref r6] rfl ?_
    obtain ⟨u14, hu14, h⟩ := Option.bind_eq_some_iff.mp h
    obtain ⟨y8, hy8, h⟩ := Option.bind_eq_some_iff.mp h
    refine rn_callV [.ref r7] rfl rfl ⟨rfl, rfl⟩ hu14 rfl rfl (e46 (d + 5) hy8) ?_
    refine rn_steps 1 88 [.ref l0, x1] [.ref l0] rfl ?_
    obtain ⟨r9, hr9, h⟩ := Option.bind_eq_some_iff.mp h
    refine rn_gR (c := 7) (f := 4) rfl rfl ⟨⟨rfl, rfl⟩, rfl⟩ hr9 ?_
    refine rn_steps 0 91 [.ref l0, x1] [.ref r9] rfl ?_
    obtain ⟨u13, hu13, h⟩ := Option.bind_eq_some_iff.mp h
    obtain ⟨y10, hy10, h⟩ := Option.bind_eq_some_iff.mp h
    refine rn_callV [] rfl rfl ⟨rfl, rfl⟩ hu13 rfl rfl (e17 (d + 6) hy10) ?_
    refine rn_steps 1 95 [.ref l0, x1] [.ref l0] rfl ?_
    obtain ⟨r11, hr11, h⟩ := Option.bind_eq_some_iff.mp h
    refine rn_gR (c := 7) (f := 1) rfl rfl ⟨⟨rfl, rfl⟩, rfl⟩ hr11 ?_
    refine rn_steps 0 98 [.ref l0, x1] [.ref r11] rfl ?_
    obtain ⟨v12, hv12, h⟩ := Option.bind_eq_some_iff.mp h
    refine rn_gI (c := 0) (f := 2) rfl rfl ⟨⟨rfl, rfl⟩, Or.inl rfl⟩ hv12 ?_
    refine rn_steps 0 101 [.ref l0, x1] [.int v12] rfl ?_
    cases h
    exact rn_ret rfl rfl rfl
  · rw [if_neg hb] at h
    refine rn_steps 1 61 [.ref l0, x1] [.int (-1)] rfl ?_
    cases h
    exact rn_ret rfl rfl rfl
noncomputable def f65_21 (l0 : Nat) (l1 : Int32) (s0 : Int32) (s1 : Nat) (σ : xM) : Option (Int32 × xM) :=
  (cO σ s1 7).bind fun u7 =>
  (f114 s1 s0 σ).bind fun y1 =>
  if y1.1 = 0 then
  (gR y1.2 l0 7 0).bind fun r2 =>
  (cO y1.2 r2 3).bind fun u6 =>
  (f24 r2 l1 y1.2).bind fun y3 =>
  (pI y3.2 l0 7 9 y3.1).bind fun σ4 =>
  (gI σ4 l0 7 9).bind fun v5 =>
  if v5 = 0 then
  f65_54 l0 0 l0 σ4
  else
  f65_54 l0 4 l0 σ4
  else
  some ((-1), y1.2)
set_option maxRecDepth 20000 in
set_option maxHeartbeats 1000000 in
theorem e65_21 (d : Nat) (l0 : Nat) (l1 : Int32) (s0 : Int32) (s1 : Nat) (σ : xM) (y : Int32 × xM) (h : f65_21 l0 l1 s0 s1 σ = some y) : Rn (d + 7) 65 21 [.ref l0, .int l1] [.int s0, .ref s1] σ (some (.int y.1), y.2) := by
  unfold f65_21 at h
  obtain ⟨u7, hu7, h⟩ := Option.bind_eq_some_iff.mp h
  obtain ⟨y1, hy1, h⟩ := Option.bind_eq_some_iff.mp h
  refine rn_callV [.int s0] rfl rfl ⟨rfl, rfl⟩ hu7 rfl rfl (e114 (d + 6) hy1) ?_
  refine rn_steps 0 24 [.ref l0, .int l1] [.int y1.1] rfl ?_
  refine rn_br (c := y1.1 = 0) rfl rfl decide_eq_true_iff (fun hb => ?_) (fun hb => ?_)
  · rw [if_pos hb] at h
    refine rn_steps 2 31 [.ref l0, .int l1] [.ref l0, .ref l0] rfl ?_
    obtain ⟨r2, hr2, h⟩ := Option.bind_eq_some_iff.mp h
    refine rn_gR (c := 7) (f := 0) rfl rfl ⟨⟨rfl, rfl⟩, rfl⟩ hr2 ?_
    refine rn_steps 1 35 [.ref l0, .int l1] [.int l1, .ref r2, .ref l0] rfl ?_
    obtain ⟨u6, hu6, h⟩ := Option.bind_eq_some_iff.mp h
    obtain ⟨y3, hy3, h⟩ := Option.bind_eq_some_iff.mp h
    refine rn_callV [.int l1] rfl rfl ⟨rfl, rfl⟩ hu6 rfl rfl (e24 d hy3) ?_
    refine rn_steps 0 38 [.ref l0, .int l1] [.int y3.1, .ref l0] rfl ?_
    obtain ⟨σ4, hσ4, h⟩ := Option.bind_eq_some_iff.mp h
    refine rn_pI (c := 7) (f := 9) rfl rfl ⟨⟨rfl, rfl⟩, rfl⟩ hσ4 ?_
    refine rn_steps 2 43 [.ref l0, .int l1] [.ref l0, .ref l0] rfl ?_
    obtain ⟨v5, hv5, h⟩ := Option.bind_eq_some_iff.mp h
    refine rn_gI (c := 7) (f := 9) rfl rfl ⟨⟨rfl, rfl⟩, Or.inl rfl⟩ hv5 ?_
    refine rn_steps 0 46 [.ref l0, .int l1] [.int v5, .ref l0] rfl ?_
    refine rn_br (c := v5 = 0) rfl rfl decide_eq_true_iff (fun hb => ?_) (fun hb => ?_)
    · rw [if_pos hb] at h
      refine rn_steps 1 54 [.ref l0, .int l1] [.int 0, .ref l0] rfl ?_
      exact e65_54 d _ _ _ _ _ _ h
    · rw [if_neg hb] at h
      refine rn_steps 2 54 [.ref l0, .int l1] [.int 4, .ref l0] rfl ?_
      exact e65_54 d _ _ _ _ _ _ h
  · rw [if_neg hb] at h
    refine rn_steps 1 28 [.ref l0, .int l1] [.int (-1)] rfl ?_
    cases h
    exact rn_ret rfl rfl rfl
noncomputable def f65_16 (l0 : Nat) (l1 : Int32) (s0 : Nat) (σ : xM) : Option (Int32 × xM) :=
  f65_21 l0 l1 2 s0 σ
set_option maxRecDepth 20000 in
set_option maxHeartbeats 1000000 in
theorem e65_16 (d : Nat) (l0 : Nat) (l1 : Int32) (s0 : Nat) (σ : xM) (y : Int32 × xM) (h : f65_16 l0 l1 s0 σ = some y) : Rn (d + 7) 65 16 [.ref l0, .int l1] [.ref s0] σ (some (.int y.1), y.2) := by
  unfold f65_16 at h
  refine rn_steps 2 21 [.ref l0, .int l1] [.int 2, .ref s0] rfl ?_
  exact e65_21 d _ _ _ _ _ _ h
/-- LastAsked.city(I)I -/
noncomputable def f65 (l0 : Nat) (l1 : Int32) (σ : xM) : Option (Int32 × xM) :=
  if l1 < 0 then
  f65_16 l0 l1 l0 σ
  else
  (gR σ l0 7 0).bind fun r1 =>
  (gI σ r1 3 0).bind fun v2 =>
  if l1 ≤ v2 then
  f65_21 l0 l1 0 l0 σ
  else
  f65_16 l0 l1 l0 σ
set_option maxRecDepth 20000 in
set_option maxHeartbeats 1000000 in
theorem e65 (d : Nat) {l0 : Nat} {l1 : Int32} {σ : xM} {y : Int32 × xM} (h : f65 l0 l1 σ = some y) : Rn (d + 7) 65 0 [.ref l0, .int l1] [] σ (some (.int y.1), y.2) := by
  unfold f65 at h
  refine rn_steps 2 2 [.ref l0, .int l1] [.int l1, .ref l0] rfl ?_
  refine rn_br (c := l1 < 0) rfl rfl decide_eq_true_iff (fun hb => ?_) (fun hb => ?_)
  · rw [if_pos hb] at h
    refine rn_steps 0 16 [.ref l0, .int l1] [.ref l0] rfl ?_
    exact e65_16 d _ _ _ _ _ h
  · rw [if_neg hb] at h
    refine rn_steps 2 7 [.ref l0, .int l1] [.ref l0, .int l1, .ref l0] rfl ?_
    obtain ⟨r1, hr1, h⟩ := Option.bind_eq_some_iff.mp h
    refine rn_gR (c := 7) (f := 0) rfl rfl ⟨⟨rfl, rfl⟩, rfl⟩ hr1 ?_
    refine rn_steps 0 10 [.ref l0, .int l1] [.ref r1, .int l1, .ref l0] rfl ?_
    obtain ⟨v2, hv2, h⟩ := Option.bind_eq_some_iff.mp h
    refine rn_gI (c := 3) (f := 0) rfl rfl ⟨⟨rfl, rfl⟩, Or.inl rfl⟩ hv2 ?_
    refine rn_steps 0 13 [.ref l0, .int l1] [.int v2, .int l1, .ref l0] rfl ?_
    refine rn_br (c := l1 ≤ v2) rfl rfl decide_eq_true_iff (fun hb => ?_) (fun hb => ?_)
    · rw [if_pos hb] at h
      refine rn_steps 1 21 [.ref l0, .int l1] [.int 0, .ref l0] rfl ?_
      exact e65_21 d _ _ _ _ _ _ h
    · rw [if_neg hb] at h
      refine rn_steps 0 16 [.ref l0, .int l1] [.ref l0] rfl ?_
      exact e65_16 d _ _ _ _ _ h
/-- LastAsked.fault()I -/
noncomputable def f66 (l0 : Nat) (σ : xM) : Option (Int32 × xM) :=
  (gI σ l0 7 9).bind fun v1 =>
  some (v1, σ)
set_option maxRecDepth 20000 in
set_option maxHeartbeats 1000000 in
theorem e66 (d : Nat) {l0 : Nat} {σ : xM} {y : Int32 × xM} (h : f66 l0 σ = some y) : Rn (d + 0) 66 0 [.ref l0] [] σ (some (.int y.1), y.2) := by
  unfold f66 at h
  refine rn_steps 1 1 [.ref l0] [.ref l0] rfl ?_
  obtain ⟨v1, hv1, h⟩ := Option.bind_eq_some_iff.mp h
  refine rn_gI (c := 7) (f := 9) rfl rfl ⟨⟨rfl, rfl⟩, Or.inl rfl⟩ hv1 ?_
  refine rn_steps 0 4 [.ref l0] [.int v1] rfl ?_
  cases h
  exact rn_ret rfl rfl rfl
noncomputable def f67_19 (s0 : Int32) (σ : xM) : Option (Int32 × xM) :=
  some (s0, σ)
set_option maxRecDepth 20000 in
set_option maxHeartbeats 1000000 in
theorem e67_19 (d : Nat) (s0 : Int32) (x0 : Value) (σ : xM) (y : Int32 × xM) (h : f67_19 s0 σ = some y) : Rn (d + 0) 67 19 [x0] [.int s0] σ (some (.int y.1), y.2) := by
  unfold f67_19 at h
  cases h
  exact rn_ret rfl rfl rfl
/-- LastAsked.where()I -/
noncomputable def f67 (l0 : Nat) (σ : xM) : Option (Int32 × xM) :=
  (gI σ l0 7 8).bind fun v1 =>
  if v1 = 4 then
  (gR σ l0 7 0).bind fun r2 =>
  (gI σ r2 3 1).bind fun v3 =>
  f67_19 v3 σ
  else
  f67_19 (-1) σ
set_option maxRecDepth 20000 in
set_option maxHeartbeats 1000000 in
theorem e67 (d : Nat) {l0 : Nat} {σ : xM} {y : Int32 × xM} (h : f67 l0 σ = some y) : Rn (d + 0) 67 0 [.ref l0] [] σ (some (.int y.1), y.2) := by
  unfold f67 at h
  refine rn_steps 1 1 [.ref l0] [.ref l0] rfl ?_
  obtain ⟨v1, hv1, h⟩ := Option.bind_eq_some_iff.mp h
  refine rn_gI (c := 7) (f := 8) rfl rfl ⟨⟨rfl, rfl⟩, Or.inl rfl⟩ hv1 ?_
  refine rn_steps 1 5 [.ref l0] [.int 4, .int v1] rfl ?_
  refine rn_br (c := ¬ v1 = 4) rfl rfl decide_eq_true_iff (fun hb => ?_) (fun hb => ?_)
  · rw [if_neg hb] at h
    refine rn_steps 1 19 [.ref l0] [.int (-1)] rfl ?_
    exact e67_19 d _ _ _ _ h
  · rw [if_pos (Decidable.not_not.mp hb)] at h
    refine rn_steps 1 9 [.ref l0] [.ref l0] rfl ?_
    obtain ⟨r2, hr2, h⟩ := Option.bind_eq_some_iff.mp h
    refine rn_gR (c := 7) (f := 0) rfl rfl ⟨⟨rfl, rfl⟩, rfl⟩ hr2 ?_
    refine rn_steps 0 12 [.ref l0] [.ref r2] rfl ?_
    obtain ⟨v3, hv3, h⟩ := Option.bind_eq_some_iff.mp h
    refine rn_gI (c := 3) (f := 1) rfl rfl ⟨⟨rfl, rfl⟩, Or.inl rfl⟩ hv3 ?_
    refine rn_steps 1 19 [.ref l0] [.int v3] rfl ?_
    exact e67_19 d _ _ _ _ h
noncomputable def f116_26 (s0 : Int32) (σ : xM) : Option (Int32 × xM) :=
  rZ s0 σ
set_option maxRecDepth 20000 in
set_option maxHeartbeats 1000000 in
theorem e116_26 (d : Nat) (s0 : Int32) (x0 x1 : Value) (σ : xM) (y : Int32 × xM) (h : f116_26 s0 σ = some y) : Rn (d + 0) 116 26 [x0, x1] [.int s0] σ (some (.int y.1), y.2) := by
  unfold f116_26 at h
  exact rn_retZ rfl rfl h
noncomputable def f116_25 (σ : xM) : Option (Int32 × xM) :=
  f116_26 0 σ
set_option maxRecDepth 20000 in
set_option maxHeartbeats 1000000 in
theorem e116_25 (d : Nat) (x0 x1 : Value) (σ : xM) (y : Int32 × xM) (h : f116_25 σ = some y) : Rn (d + 0) 116 25 [x0, x1] [] σ (some (.int y.1), y.2) := by
  unfold f116_25 at h
  refine rn_steps 1 26 [x0, x1] [.int 0] rfl ?_
  exact e116_26 d _ _ _ _ _ h
/-- LastAsked.isPerson(I)Z -/
noncomputable def f116 (l0 : Nat) (l1 : Int32) (σ : xM) : Option (Int32 × xM) :=
  if l1 < 0 then
  f116_25 σ
  else
  (gR σ l0 7 1).bind fun r1 =>
  (gI σ r1 0 2).bind fun v2 =>
  if v2 ≤ l1 then
  f116_25 σ
  else
  if 6 ≤ l1 then
  f116_25 σ
  else
  f116_26 1 σ
set_option maxRecDepth 20000 in
set_option maxHeartbeats 1000000 in
theorem e116 (d : Nat) {l0 : Nat} {l1 : Int32} {σ : xM} {y : Int32 × xM} (h : f116 l0 l1 σ = some y) : Rn (d + 0) 116 0 [.ref l0, .int l1] [] σ (some (.int y.1), y.2) := by
  unfold f116 at h
  refine rn_steps 1 1 [.ref l0, .int l1] [.int l1] rfl ?_
  refine rn_br (c := l1 < 0) rfl rfl decide_eq_true_iff (fun hb => ?_) (fun hb => ?_)
  · rw [if_pos hb] at h
    refine rn_steps 0 25 [.ref l0, .int l1] [] rfl ?_
    exact e116_25 d _ _ _ _ h
  · rw [if_neg hb] at h
    refine rn_steps 2 6 [.ref l0, .int l1] [.ref l0, .int l1] rfl ?_
    obtain ⟨r1, hr1, h⟩ := Option.bind_eq_some_iff.mp h
    refine rn_gR (c := 7) (f := 1) rfl rfl ⟨⟨rfl, rfl⟩, rfl⟩ hr1 ?_
    refine rn_steps 0 9 [.ref l0, .int l1] [.ref r1, .int l1] rfl ?_
    obtain ⟨v2, hv2, h⟩ := Option.bind_eq_some_iff.mp h
    refine rn_gI (c := 0) (f := 2) rfl rfl ⟨⟨rfl, rfl⟩, Or.inl rfl⟩ hv2 ?_
    refine rn_steps 0 12 [.ref l0, .int l1] [.int v2, .int l1] rfl ?_
    refine rn_br (c := v2 ≤ l1) rfl rfl decide_eq_true_iff (fun hb => ?_) (fun hb => ?_)
    · rw [if_pos hb] at h
      refine rn_steps 0 25 [.ref l0, .int l1] [] rfl ?_
      exact e116_25 d _ _ _ _ h
    · rw [if_neg hb] at h
      refine rn_steps 2 18 [.ref l0, .int l1] [.int 6, .int l1] rfl ?_
      refine rn_br (c := 6 ≤ l1) rfl rfl decide_eq_true_iff (fun hb => ?_) (fun hb => ?_)
      · rw [if_pos hb] at h
        refine rn_steps 0 25 [.ref l0, .int l1] [] rfl ?_
        exact e116_25 d _ _ _ _ h
      · rw [if_neg hb] at h
        refine rn_steps 2 26 [.ref l0, .int l1] [.int 1] rfl ?_
        exact e116_26 d _ _ _ _ _ h
noncomputable def f126_56 (l2 : Int32) (σ : xM) : Option (Int32 × xM) :=
  some (l2, σ)
set_option maxRecDepth 20000 in
set_option maxHeartbeats 1000000 in
theorem e126_56 (d : Nat) (l2 : Int32) (x0 x1 x3 : Value) (σ : xM) (y : Int32 × xM) (h : f126_56 l2 σ = some y) : Rn (d + 2) 126 56 [x0, x1, .int l2, x3] [] σ (some (.int y.1), y.2) := by
  unfold f126_56 at h
  refine rn_steps 1 57 [x0, x1, .int l2, x3] [.int l2] rfl ?_
  cases h
  exact rn_ret rfl rfl rfl
noncomputable def f126_50 (K4 : Nat → Int32 → Int32 → Int32 → xM → Option (Int32 × xM)) (l0 : Nat) (l1 : Int32) (l2 : Int32) (l3 : Int32) (σ : xM) : Option (Int32 × xM) :=
  K4 l0 l1 l2 (l3 + 1) σ
set_option maxRecDepth 20000 in
set_option maxHeartbeats 1000000 in
theorem e126_50 (d : Nat) (K4 : Nat → Int32 → Int32 → Int32 → xM → Option (Int32 × xM)) (hK4 : ∀ (l0 : Nat) (l1 : Int32) (l2 : Int32) (l3 : Int32) (σ : xM) (y : Int32 × xM), K4 l0 l1 l2 l3 σ = some y → Rn (d + 2) 126 4 [.ref l0, .int l1, .int l2, .int l3] [] σ (some (.int y.1), y.2)) (l0 : Nat) (l1 : Int32) (l2 : Int32) (l3 : Int32) (σ : xM) (y : Int32 × xM) (h : f126_50 K4 l0 l1 l2 l3 σ = some y) : Rn (d + 2) 126 50 [.ref l0, .int l1, .int l2, .int l3] [] σ (some (.int y.1), y.2) := by
  unfold f126_50 at h
  refine rn_steps 2 4 [.ref l0, .int l1, .int l2, .int (l3 + 1)] [] rfl ?_
  exact hK4 _ _ _ _ _ _ h
noncomputable def f126_4 : Nat → Nat → Int32 → Int32 → Int32 → xM → Option (Int32 × xM)
  | 0, _, _, _, _, _ => none
  | n + 1, l0, l1, l2, l3, σ =>
    if 6 ≤ l3 then
    f126_56 l2 σ
    else
    (gR σ l0 7 2).bind fun r1 =>
    (cO σ r1 4).bind fun u9 =>
    (f48 r1 l1 σ).bind fun y2 =>
    if y2.1 = 0 then
    f126_50 (f126_4 n) l0 l1 l2 l3 y2.2
    else
    (gR y2.2 l0 7 2).bind fun r3 =>
    (cO y2.2 r3 4).bind fun u8 =>
    (f48 r3 l3 y2.2).bind fun y4 =>
    if y4.1 = 0 then
    f126_50 (f126_4 n) l0 l1 l2 l3 y4.2
    else
    (gR y4.2 l0 7 1).bind fun r5 =>
    (cO y4.2 r5 0).bind fun u7 =>
    (f4 r5 l1 l3 y4.2).bind fun y6 =>
    if y6.1 = 0 then
    f126_50 (f126_4 n) l0 l1 l2 l3 y6.2
    else
    f126_50 (f126_4 n) l0 l1 (l2 ||| (1 <<< (l3 &&& 31))) l3 y6.2
set_option maxRecDepth 20000 in
set_option maxHeartbeats 1000000 in
theorem e126_4 (d : Nat) : ∀ (n : Nat) (l0 : Nat) (l1 : Int32) (l2 : Int32) (l3 : Int32) (σ : xM) (y : Int32 × xM), f126_4 n l0 l1 l2 l3 σ = some y → Rn (d + 2) 126 4 [.ref l0, .int l1, .int l2, .int l3] [] σ (some (.int y.1), y.2) := by
  intro n
  induction n with
  | zero => intro l0 l1 l2 l3 σ y h; cases h
  | succ n ih =>
    intro l0 l1 l2 l3 σ y h
    unfold f126_4 at h
    refine rn_steps 2 7 [.ref l0, .int l1, .int l2, .int l3] [.int 6, .int l3] rfl ?_
    refine rn_br (c := 6 ≤ l3) rfl rfl decide_eq_true_iff (fun hb => ?_) (fun hb => ?_)
    · rw [if_pos hb] at h
      refine rn_steps 0 56 [.ref l0, .int l1, .int l2, .int l3] [] rfl ?_
      exact e126_56 d _ _ _ _ _ _ h
    · rw [if_neg hb] at h
      refine rn_steps 1 11 [.ref l0, .int l1, .int l2, .int l3] [.ref l0] rfl ?_
      obtain ⟨r1, hr1, h⟩ := Option.bind_eq_some_iff.mp h
      refine rn_gR (c := 7) (f := 2) rfl rfl ⟨⟨rfl, rfl⟩, rfl⟩ hr1 ?_
      refine rn_steps 1 15 [.ref l0, .int l1, .int l2, .int l3] [.int l1, .ref r1] rfl ?_
      obtain ⟨u9, hu9, h⟩ := Option.bind_eq_some_iff.mp h
      obtain ⟨y2, hy2, h⟩ := Option.bind_eq_some_iff.mp h
      refine rn_callV [.int l1] rfl rfl ⟨rfl, rfl⟩ hu9 rfl rfl (e48 d hy2) ?_
      refine rn_steps 0 18 [.ref l0, .int l1, .int l2, .int l3] [.int y2.1] rfl ?_
      refine rn_br (c := y2.1 = 0) rfl rfl decide_eq_true_iff (fun hb => ?_) (fun hb => ?_)
      · rw [if_pos hb] at h
        refine rn_steps 0 50 [.ref l0, .int l1, .int l2, .int l3] [] rfl ?_
        exact e126_50 d _ ih _ _ _ _ _ _ h
      · rw [if_neg hb] at h
        refine rn_steps 1 22 [.ref l0, .int l1, .int l2, .int l3] [.ref l0] rfl ?_
        obtain ⟨r3, hr3, h⟩ := Option.bind_eq_some_iff.mp h
        refine rn_gR (c := 7) (f := 2) rfl rfl ⟨⟨rfl, rfl⟩, rfl⟩ hr3 ?_
        refine rn_steps 1 26 [.ref l0, .int l1, .int l2, .int l3] [.int l3, .ref r3] rfl ?_
        obtain ⟨u8, hu8, h⟩ := Option.bind_eq_some_iff.mp h
        obtain ⟨y4, hy4, h⟩ := Option.bind_eq_some_iff.mp h
        refine rn_callV [.int l3] rfl rfl ⟨rfl, rfl⟩ hu8 rfl rfl (e48 d hy4) ?_
        refine rn_steps 0 29 [.ref l0, .int l1, .int l2, .int l3] [.int y4.1] rfl ?_
        refine rn_br (c := y4.1 = 0) rfl rfl decide_eq_true_iff (fun hb => ?_) (fun hb => ?_)
        · rw [if_pos hb] at h
          refine rn_steps 0 50 [.ref l0, .int l1, .int l2, .int l3] [] rfl ?_
          exact e126_50 d _ ih _ _ _ _ _ _ h
        · rw [if_neg hb] at h
          refine rn_steps 1 33 [.ref l0, .int l1, .int l2, .int l3] [.ref l0] rfl ?_
          obtain ⟨r5, hr5, h⟩ := Option.bind_eq_some_iff.mp h
          refine rn_gR (c := 7) (f := 1) rfl rfl ⟨⟨rfl, rfl⟩, rfl⟩ hr5 ?_
          refine rn_steps 2 38 [.ref l0, .int l1, .int l2, .int l3] [.int l3, .int l1, .ref r5] rfl ?_
          obtain ⟨u7, hu7, h⟩ := Option.bind_eq_some_iff.mp h
          obtain ⟨y6, hy6, h⟩ := Option.bind_eq_some_iff.mp h
          refine rn_callV [.int l1, .int l3] rfl rfl ⟨rfl, rfl⟩ hu7 rfl rfl (e4 d hy6) ?_
          refine rn_steps 0 41 [.ref l0, .int l1, .int l2, .int l3] [.int y6.1] rfl ?_
          refine rn_br (c := y6.1 = 0) rfl rfl decide_eq_true_iff (fun hb => ?_) (fun hb => ?_)
          · rw [if_pos hb] at h
            refine rn_steps 0 50 [.ref l0, .int l1, .int l2, .int l3] [] rfl ?_
            exact e126_50 d _ ih _ _ _ _ _ _ h
          · rw [if_neg hb] at h
            refine rn_steps 6 50 [.ref l0, .int l1, .int (l2 ||| (1 <<< (l3 &&& 31))), .int l3] [] rfl ?_
            exact e126_50 d _ ih _ _ _ _ _ _ h
/-- LastAsked.askable(I)I -/
noncomputable def f126 (l0 : Nat) (l1 : Int32) (σ : xM) : Option (Int32 × xM) :=
  f126_4 1100 l0 l1 0 0 σ
set_option maxRecDepth 20000 in
set_option maxHeartbeats 1000000 in
theorem e126 (d : Nat) {l0 : Nat} {l1 : Int32} {σ : xM} {y : Int32 × xM} (h : f126 l0 l1 σ = some y) : Rn (d + 2) 126 0 [.ref l0, .int l1, .retAddr 0, .retAddr 0] [] σ (some (.int y.1), y.2) := by
  unfold f126 at h
  refine rn_steps 4 4 [.ref l0, .int l1, .int 0, .int 0] [] rfl ?_
  exact e126_4 d 1100 _ _ _ _ _ _ h
noncomputable def f127_56 (l2 : Int32) (σ : xM) : Option (Int32 × xM) :=
  some (l2, σ)
set_option maxRecDepth 20000 in
set_option maxHeartbeats 1000000 in
theorem e127_56 (d : Nat) (l2 : Int32) (x0 x1 x3 : Value) (σ : xM) (y : Int32 × xM) (h : f127_56 l2 σ = some y) : Rn (d + 2) 127 56 [x0, x1, .int l2, x3] [] σ (some (.int y.1), y.2) := by
  unfold f127_56 at h
  refine rn_steps 1 57 [x0, x1, .int l2, x3] [.int l2] rfl ?_
  cases h
  exact rn_ret rfl rfl rfl
noncomputable def f127_50 (K4 : Nat → Int32 → Int32 → Int32 → xM → Option (Int32 × xM)) (l0 : Nat) (l1 : Int32) (l2 : Int32) (l3 : Int32) (σ : xM) : Option (Int32 × xM) :=
  K4 l0 l1 l2 (l3 + 1) σ
set_option maxRecDepth 20000 in
set_option maxHeartbeats 1000000 in
theorem e127_50 (d : Nat) (K4 : Nat → Int32 → Int32 → Int32 → xM → Option (Int32 × xM)) (hK4 : ∀ (l0 : Nat) (l1 : Int32) (l2 : Int32) (l3 : Int32) (σ : xM) (y : Int32 × xM), K4 l0 l1 l2 l3 σ = some y → Rn (d + 2) 127 4 [.ref l0, .int l1, .int l2, .int l3] [] σ (some (.int y.1), y.2)) (l0 : Nat) (l1 : Int32) (l2 : Int32) (l3 : Int32) (σ : xM) (y : Int32 × xM) (h : f127_50 K4 l0 l1 l2 l3 σ = some y) : Rn (d + 2) 127 50 [.ref l0, .int l1, .int l2, .int l3] [] σ (some (.int y.1), y.2) := by
  unfold f127_50 at h
  refine rn_steps 2 4 [.ref l0, .int l1, .int l2, .int (l3 + 1)] [] rfl ?_
  exact hK4 _ _ _ _ _ _ h
noncomputable def f127_4 : Nat → Nat → Int32 → Int32 → Int32 → xM → Option (Int32 × xM)
  | 0, _, _, _, _, _ => none
  | n + 1, l0, l1, l2, l3, σ =>
    if 6 ≤ l3 then
    f127_56 l2 σ
    else
    (gR σ l0 7 2).bind fun r1 =>
    (cO σ r1 4).bind fun u9 =>
    (f48 r1 l1 σ).bind fun y2 =>
    if y2.1 = 0 then
    f127_50 (f127_4 n) l0 l1 l2 l3 y2.2
    else
    (gR y2.2 l0 7 2).bind fun r3 =>
    (cO y2.2 r3 4).bind fun u8 =>
    (f48 r3 l3 y2.2).bind fun y4 =>
    if y4.1 = 0 then
    f127_50 (f127_4 n) l0 l1 l2 l3 y4.2
    else
    (gR y4.2 l0 7 1).bind fun r5 =>
    (cO y4.2 r5 0).bind fun u7 =>
    (f4 r5 l3 l1 y4.2).bind fun y6 =>
    if y6.1 = 0 then
    f127_50 (f127_4 n) l0 l1 l2 l3 y6.2
    else
    f127_50 (f127_4 n) l0 l1 (l2 ||| (1 <<< (l3 &&& 31))) l3 y6.2
set_option maxRecDepth 20000 in
set_option maxHeartbeats 1000000 in
theorem e127_4 (d : Nat) : ∀ (n : Nat) (l0 : Nat) (l1 : Int32) (l2 : Int32) (l3 : Int32) (σ : xM) (y : Int32 × xM), f127_4 n l0 l1 l2 l3 σ = some y → Rn (d + 2) 127 4 [.ref l0, .int l1, .int l2, .int l3] [] σ (some (.int y.1), y.2) := by
  intro n
  induction n with
  | zero => intro l0 l1 l2 l3 σ y h; cases h
  | succ n ih =>
    intro l0 l1 l2 l3 σ y h
    unfold f127_4 at h
    refine rn_steps 2 7 [.ref l0, .int l1, .int l2, .int l3] [.int 6, .int l3] rfl ?_
    refine rn_br (c := 6 ≤ l3) rfl rfl decide_eq_true_iff (fun hb => ?_) (fun hb => ?_)
    · rw [if_pos hb] at h
      refine rn_steps 0 56 [.ref l0, .int l1, .int l2, .int l3] [] rfl ?_
      exact e127_56 d _ _ _ _ _ _ h
    · rw [if_neg hb] at h
      refine rn_steps 1 11 [.ref l0, .int l1, .int l2, .int l3] [.ref l0] rfl ?_
      obtain ⟨r1, hr1, h⟩ := Option.bind_eq_some_iff.mp h
      refine rn_gR (c := 7) (f := 2) rfl rfl ⟨⟨rfl, rfl⟩, rfl⟩ hr1 ?_
      refine rn_steps 1 15 [.ref l0, .int l1, .int l2, .int l3] [.int l1, .ref r1] rfl ?_
      obtain ⟨u9, hu9, h⟩ := Option.bind_eq_some_iff.mp h
      obtain ⟨y2, hy2, h⟩ := Option.bind_eq_some_iff.mp h
      refine rn_callV [.int l1] rfl rfl ⟨rfl, rfl⟩ hu9 rfl rfl (e48 d hy2) ?_
      refine rn_steps 0 18 [.ref l0, .int l1, .int l2, .int l3] [.int y2.1] rfl ?_
      refine rn_br (c := y2.1 = 0) rfl rfl decide_eq_true_iff (fun hb => ?_) (fun hb => ?_)
      · rw [if_pos hb] at h
        refine rn_steps 0 50 [.ref l0, .int l1, .int l2, .int l3] [] rfl ?_
        exact e127_50 d _ ih _ _ _ _ _ _ h
      · rw [if_neg hb] at h
        refine rn_steps 1 22 [.ref l0, .int l1, .int l2, .int l3] [.ref l0] rfl ?_
        obtain ⟨r3, hr3, h⟩ := Option.bind_eq_some_iff.mp h
        refine rn_gR (c := 7) (f := 2) rfl rfl ⟨⟨rfl, rfl⟩, rfl⟩ hr3 ?_
        refine rn_steps 1 26 [.ref l0, .int l1, .int l2, .int l3] [.int l3, .ref r3] rfl ?_
        obtain ⟨u8, hu8, h⟩ := Option.bind_eq_some_iff.mp h
        obtain ⟨y4, hy4, h⟩ := Option.bind_eq_some_iff.mp h
        refine rn_callV [.int l3] rfl rfl ⟨rfl, rfl⟩ hu8 rfl rfl (e48 d hy4) ?_
        refine rn_steps 0 29 [.ref l0, .int l1, .int l2, .int l3] [.int y4.1] rfl ?_
        refine rn_br (c := y4.1 = 0) rfl rfl decide_eq_true_iff (fun hb => ?_) (fun hb => ?_)
        · rw [if_pos hb] at h
          refine rn_steps 0 50 [.ref l0, .int l1, .int l2, .int l3] [] rfl ?_
          exact e127_50 d _ ih _ _ _ _ _ _ h
        · rw [if_neg hb] at h
          refine rn_steps 1 33 [.ref l0, .int l1, .int l2, .int l3] [.ref l0] rfl ?_
          obtain ⟨r5, hr5, h⟩ := Option.bind_eq_some_iff.mp h
          refine rn_gR (c := 7) (f := 1) rfl rfl ⟨⟨rfl, rfl⟩, rfl⟩ hr5 ?_
          refine rn_steps 2 38 [.ref l0, .int l1, .int l2, .int l3] [.int l1, .int l3, .ref r5] rfl ?_
          obtain ⟨u7, hu7, h⟩ := Option.bind_eq_some_iff.mp h
          obtain ⟨y6, hy6, h⟩ := Option.bind_eq_some_iff.mp h
          refine rn_callV [.int l3, .int l1] rfl rfl ⟨rfl, rfl⟩ hu7 rfl rfl (e4 d hy6) ?_
          refine rn_steps 0 41 [.ref l0, .int l1, .int l2, .int l3] [.int y6.1] rfl ?_
          refine rn_br (c := y6.1 = 0) rfl rfl decide_eq_true_iff (fun hb => ?_) (fun hb => ?_)
          · rw [if_pos hb] at h
            refine rn_steps 0 50 [.ref l0, .int l1, .int l2, .int l3] [] rfl ?_
            exact e127_50 d _ ih _ _ _ _ _ _ h
          · rw [if_neg hb] at h
            refine rn_steps 6 50 [.ref l0, .int l1, .int (l2 ||| (1 <<< (l3 &&& 31))), .int l3] [] rfl ?_
            exact e127_50 d _ ih _ _ _ _ _ _ h
/-- LastAsked.askers(I)I -/
noncomputable def f127 (l0 : Nat) (l1 : Int32) (σ : xM) : Option (Int32 × xM) :=
  f127_4 1100 l0 l1 0 0 σ
set_option maxRecDepth 20000 in
set_option maxHeartbeats 1000000 in
theorem e127 (d : Nat) {l0 : Nat} {l1 : Int32} {σ : xM} {y : Int32 × xM} (h : f127 l0 l1 σ = some y) : Rn (d + 2) 127 0 [.ref l0, .int l1, .retAddr 0, .retAddr 0] [] σ (some (.int y.1), y.2) := by
  unfold f127 at h
  refine rn_steps 4 4 [.ref l0, .int l1, .int 0, .int 0] [] rfl ?_
  exact e127_4 d 1100 _ _ _ _ _ _ h
noncomputable def f68_118 (s0 : Int32) (σ : xM) : Option (Int32 × xM) :=
  some (s0, σ)
set_option maxRecDepth 20000 in
set_option maxHeartbeats 1000000 in
theorem e68_118 (d : Nat) (s0 : Int32) (x0 x1 x2 : Value) (σ : xM) (y : Int32 × xM) (h : f68_118 s0 σ = some y) : Rn (d + 3) 68 118 [x0, x1, x2] [.int s0] σ (some (.int y.1), y.2) := by
  unfold f68_118 at h
  cases h
  exact rn_ret rfl rfl rfl
noncomputable def f68_24 (l0 : Nat) (l1 : Int32) (l2 : Int32) (s0 : Int32) (s1 : Nat) (σ : xM) : Option (Int32 × xM) :=
  (cO σ s1 7).bind fun u21 =>
  (f114 s1 s0 σ).bind fun y1 =>
  if y1.1 = 0 then
  if l2 = 0 then
  (gR y1.2 l0 7 1).bind fun r2 =>
  (gR y1.2 r2 0 7).bind fun r3 =>
  (aI y1.2 r3 l1).bind fun v4 =>
  some (v4, y1.2)
  else
  if l2 = 1 then
  (gR y1.2 l0 7 2).bind fun r5 =>
  (gR y1.2 r5 4 5).bind fun r6 =>
  (aI y1.2 r6 l1).bind fun v7 =>
  some (v7, y1.2)
  else
  if l2 = 2 then
  (gR y1.2 l0 7 1).bind fun r8 =>
  (gR y1.2 r8 0 9).bind fun r9 =>
  (aI y1.2 r9 l1).bind fun v10 =>
  some (v10, y1.2)
  else
  if l2 = 3 then
  (gR y1.2 l0 7 2).bind fun r11 =>
  (cO y1.2 r11 4).bind fun u13 =>
  (f48 r11 l1 y1.2).bind fun y12 =>
  if y12.1 = 0 then
  f68_118 0 y12.2
  else
  f68_118 1 y12.2
  else
  if l2 = 4 then
  (gR y1.2 l0 7 1).bind fun r14 =>
  (gR y1.2 r14 0 10).bind fun r15 =>
  (aI y1.2 r15 l1).bind fun v16 =>
  some (v16, y1.2)
  else
  if l2 = 5 then
  (cO y1.2 l0 7).bind fun u18 =>
  (f126 l0 l1 y1.2).bind fun y17 =>
  some (y17.1, y17.2)
  else
  (cO y1.2 l0 7).bind fun u20 =>
  (f127 l0 l1 y1.2).bind fun y19 =>
  some (y19.1, y19.2)
  else
  some ((-1), y1.2)
set_option maxRecDepth 20000 in
set_option maxHeartbeats 1000000 in
theorem e68_24 (d : Nat) (l0 : Nat) (l1 : Int32) (l2 : Int32) (s0 : Int32) (s1 : Nat) (σ : xM) (y : Int32 × xM) (h : f68_24 l0 l1 l2 s0 s1 σ = some y) : Rn (d + 3) 68 24 [.ref l0, .int l1, .int l2] [.int s0, .ref s1] σ (some (.int y.1), y.2) := by
  unfold f68_24 at h
  obtain ⟨u21, hu21, h⟩ := Option.bind_eq_some_iff.mp h
  obtain ⟨y1, hy1, h⟩ := Option.bind_eq_some_iff.mp h
  refine rn_callV [.int s0] rfl rfl ⟨rfl, rfl⟩ hu21 rfl rfl (e114 (d + 2) hy1) ?_
  refine rn_steps 0 27 [.ref l0, .int l1, .int l2] [.int y1.1] rfl ?_
  refine rn_br (c := y1.1 = 0) rfl rfl decide_eq_true_iff (fun hb => ?_) (fun hb => ?_)
  · rw [if_pos hb] at h
    refine rn_steps 1 33 [.ref l0, .int l1, .int l2] [.int l2] rfl ?_
    by_cases hb0 : l2 = 0
    · rw [if_pos hb0] at h
      rw [hb0]
      refine rn_steps 1 72 [.ref l0, .int l1, .int 0] [] rfl ?_
      refine rn_steps 1 73 [.ref l0, .int l1, .int 0] [.ref l0] rfl ?_
      obtain ⟨r2, hr2, h⟩ := Option.bind_eq_some_iff.mp h
      refine rn_gR (c := 7) (f := 1) rfl rfl ⟨⟨rfl, rfl⟩, rfl⟩ hr2 ?_
      refine rn_steps 0 76 [.ref l0, .int l1, .int 0] [.ref r2] rfl ?_
      obtain ⟨r3, hr3, h⟩ := Option.bind_eq_some_iff.mp h
      refine rn_gR (c := 0) (f := 7) rfl rfl ⟨⟨rfl, rfl⟩, rfl⟩ hr3 ?_
      refine rn_steps 1 80 [.ref l0, .int l1, .int 0] [.int l1, .ref r3] rfl ?_
      obtain ⟨v4, hv4, h⟩ := Option.bind_eq_some_iff.mp h
      refine rn_aI rfl hv4 ?_
      refine rn_steps 0 81 [.ref l0, .int l1, .int 0] [.int v4] rfl ?_
      cases h
      exact rn_ret rfl rfl rfl
    · rw [if_neg hb0] at h
      by_cases hb1 : l2 = 1
      · rw [if_pos hb1] at h
        rw [hb1]
        refine rn_steps 1 82 [.ref l0, .int l1, .int 1] [] rfl ?_
        refine rn_steps 1 83 [.ref l0, .int l1, .int 1] [.ref l0] rfl ?_
        obtain ⟨r5, hr5, h⟩ := Option.bind_eq_some_iff.mp h
        refine rn_gR (c := 7) (f := 2) rfl rfl ⟨⟨rfl, rfl⟩, rfl⟩ hr5 ?_
        refine rn_steps 0 86 [.ref l0, .int l1, .int 1] [.ref r5] rfl ?_
        obtain ⟨r6, hr6, h⟩ := Option.bind_eq_some_iff.mp h
        refine rn_gR (c := 4) (f := 5) rfl rfl ⟨⟨rfl, rfl⟩, rfl⟩ hr6 ?_
        refine rn_steps 1 90 [.ref l0, .int l1, .int 1] [.int l1, .ref r6] rfl ?_
        obtain ⟨v7, hv7, h⟩ := Option.bind_eq_some_iff.mp h
        refine rn_aI rfl hv7 ?_
        refine rn_steps 0 91 [.ref l0, .int l1, .int 1] [.int v7] rfl ?_
        cases h
        exact rn_ret rfl rfl rfl
      · rw [if_neg hb1] at h
        by_cases hb2 : l2 = 2
        · rw [if_pos hb2] at h
          rw [hb2]
          refine rn_steps 1 92 [.ref l0, .int l1, .int 2] [] rfl ?_
          refine rn_steps 1 93 [.ref l0, .int l1, .int 2] [.ref l0] rfl ?_
          obtain ⟨r8, hr8, h⟩ := Option.bind_eq_some_iff.mp h
          refine rn_gR (c := 7) (f := 1) rfl rfl ⟨⟨rfl, rfl⟩, rfl⟩ hr8 ?_
          refine rn_steps 0 96 [.ref l0, .int l1, .int 2] [.ref r8] rfl ?_
          obtain ⟨r9, hr9, h⟩ := Option.bind_eq_some_iff.mp h
          refine rn_gR (c := 0) (f := 9) rfl rfl ⟨⟨rfl, rfl⟩, rfl⟩ hr9 ?_
          refine rn_steps 1 100 [.ref l0, .int l1, .int 2] [.int l1, .ref r9] rfl ?_
          obtain ⟨v10, hv10, h⟩ := Option.bind_eq_some_iff.mp h
          refine rn_aI rfl hv10 ?_
          refine rn_steps 0 101 [.ref l0, .int l1, .int 2] [.int v10] rfl ?_
          cases h
          exact rn_ret rfl rfl rfl
        · rw [if_neg hb2] at h
          by_cases hb3 : l2 = 3
          · rw [if_pos hb3] at h
            rw [hb3]
            refine rn_steps 1 102 [.ref l0, .int l1, .int 3] [] rfl ?_
            refine rn_steps 1 103 [.ref l0, .int l1, .int 3] [.ref l0] rfl ?_
            obtain ⟨r11, hr11, h⟩ := Option.bind_eq_some_iff.mp h
            refine rn_gR (c := 7) (f := 2) rfl rfl ⟨⟨rfl, rfl⟩, rfl⟩ hr11 ?_
            refine rn_steps 1 107 [.ref l0, .int l1, .int 3] [.int l1, .ref r11] rfl ?_
            obtain ⟨u13, hu13, h⟩ := Option.bind_eq_some_iff.mp h
            obtain ⟨y12, hy12, h⟩ := Option.bind_eq_some_iff.mp h
            refine rn_callV [.int l1] rfl rfl ⟨rfl, rfl⟩ hu13 rfl rfl (e48 (d + 1) hy12) ?_
            refine rn_steps 0 110 [.ref l0, .int l1, .int 3] [.int y12.1] rfl ?_
            refine rn_br (c := y12.1 = 0) rfl rfl decide_eq_true_iff (fun hb => ?_) (fun hb => ?_)
            · rw [if_pos hb] at h
              refine rn_steps 1 118 [.ref l0, .int l1, .int 3] [.int 0] rfl ?_
              exact e68_118 d _ _ _ _ _ _ h
            · rw [if_neg hb] at h
              refine rn_steps 2 118 [.ref l0, .int l1, .int 3] [.int 1] rfl ?_
              exact e68_118 d _ _ _ _ _ _ h
          · rw [if_neg hb3] at h
            by_cases hb4 : l2 = 4
            · rw [if_pos hb4] at h
              rw [hb4]
              refine rn_steps 1 119 [.ref l0, .int l1, .int 4] [] rfl ?_
              refine rn_steps 1 120 [.ref l0, .int l1, .int 4] [.ref l0] rfl ?_
              obtain ⟨r14, hr14, h⟩ := Option.bind_eq_some_iff.mp h
              refine rn_gR (c := 7) (f := 1) rfl rfl ⟨⟨rfl, rfl⟩, rfl⟩ hr14 ?_
              refine rn_steps 0 123 [.ref l0, .int l1, .int 4] [.ref r14] rfl ?_
              obtain ⟨r15, hr15, h⟩ := Option.bind_eq_some_iff.mp h
              refine rn_gR (c := 0) (f := 10) rfl rfl ⟨⟨rfl, rfl⟩, rfl⟩ hr15 ?_
              refine rn_steps 1 127 [.ref l0, .int l1, .int 4] [.int l1, .ref r15] rfl ?_
              obtain ⟨v16, hv16, h⟩ := Option.bind_eq_some_iff.mp h
              refine rn_aI rfl hv16 ?_
              refine rn_steps 0 128 [.ref l0, .int l1, .int 4] [.int v16] rfl ?_
              cases h
              exact rn_ret rfl rfl rfl
            · rw [if_neg hb4] at h
              by_cases hb5 : l2 = 5
              · rw [if_pos hb5] at h
                rw [hb5]
                refine rn_steps 1 129 [.ref l0, .int l1, .int 5] [] rfl ?_
                refine rn_steps 2 131 [.ref l0, .int l1, .int 5] [.int l1, .ref l0] rfl ?_
                obtain ⟨u18, hu18, h⟩ := Option.bind_eq_some_iff.mp h
                obtain ⟨y17, hy17, h⟩ := Option.bind_eq_some_iff.mp h
                refine rn_callV [.int l1] rfl rfl ⟨rfl, rfl⟩ hu18 rfl rfl (e126 d hy17) ?_
                refine rn_steps 0 134 [.ref l0, .int l1, .int 5] [.int y17.1] rfl ?_
                cases h
                exact rn_ret rfl rfl rfl
              · rw [if_neg hb5] at h
                have hx : l2.toInt < 0 ∨ (5 : Int) < l2.toInt := xout (x := l2) (N := 5) (fun j hj => by rcases (show j = 0 ∨ j = 1 ∨ j = 2 ∨ j = 3 ∨ j = 4 ∨ j = 5 by omega) with rfl | rfl | rfl | rfl | rfl | rfl <;> first | exact hb0 | exact hb1 | exact hb2 | exact hb3 | exact hb4 | exact hb5)
                refine rn_tbl rfl rfl hx ?_
                refine rn_steps 2 137 [.ref l0, .int l1, .int l2] [.int l1, .ref l0] rfl ?_
                obtain ⟨u20, hu20, h⟩ := Option.bind_eq_some_iff.mp h
                obtain ⟨y19, hy19, h⟩ := Option.bind_eq_some_iff.mp h
                refine rn_callV [.int l1] rfl rfl ⟨rfl, rfl⟩ hu20 rfl rfl (e127 d hy19) ?_
                refine rn_steps 0 140 [.ref l0, .int l1, .int l2] [.int y19.1] rfl ?_
                cases h
                exact rn_ret rfl rfl rfl
  · rw [if_neg hb] at h
    refine rn_steps 1 31 [.ref l0, .int l1, .int l2] [.int (-1)] rfl ?_
    cases h
    exact rn_ret rfl rfl rfl
noncomputable def f68_23 (l0 : Nat) (l1 : Int32) (l2 : Int32) (s0 : Nat) (σ : xM) : Option (Int32 × xM) :=
  f68_24 l0 l1 l2 1 s0 σ
set_option maxRecDepth 20000 in
set_option maxHeartbeats 1000000 in
theorem e68_23 (d : Nat) (l0 : Nat) (l1 : Int32) (l2 : Int32) (s0 : Nat) (σ : xM) (y : Int32 × xM) (h : f68_23 l0 l1 l2 s0 σ = some y) : Rn (d + 3) 68 23 [.ref l0, .int l1, .int l2] [.ref s0] σ (some (.int y.1), y.2) := by
  unfold f68_23 at h
  refine rn_steps 1 24 [.ref l0, .int l1, .int l2] [.int 1, .ref s0] rfl ?_
  exact e68_24 d _ _ _ _ _ _ _ h
/-- LastAsked.person(II)I -/
noncomputable def f68 (l0 : Nat) (l1 : Int32) (l2 : Int32) (σ : xM) : Option (Int32 × xM) :=
  (cO σ l0 7).bind fun u2 =>
  (f116 l0 l1 σ).bind fun y1 =>
  if y1.1 = 0 then
  f68_23 l0 l1 l2 l0 y1.2
  else
  if l2 < 0 then
  f68_23 l0 l1 l2 l0 y1.2
  else
  if 6 < l2 then
  f68_23 l0 l1 l2 l0 y1.2
  else
  f68_24 l0 l1 l2 0 l0 y1.2
set_option maxRecDepth 20000 in
set_option maxHeartbeats 1000000 in
theorem e68 (d : Nat) {l0 : Nat} {l1 : Int32} {l2 : Int32} {σ : xM} {y : Int32 × xM} (h : f68 l0 l1 l2 σ = some y) : Rn (d + 3) 68 0 [.ref l0, .int l1, .int l2] [] σ (some (.int y.1), y.2) := by
  unfold f68 at h
  refine rn_steps 3 3 [.ref l0, .int l1, .int l2] [.int l1, .ref l0, .ref l0] rfl ?_
  obtain ⟨u2, hu2, h⟩ := Option.bind_eq_some_iff.mp h
  obtain ⟨y1, hy1, h⟩ := Option.bind_eq_some_iff.mp h
  refine rn_callV [.int l1] rfl rfl ⟨rfl, rfl⟩ hu2 rfl rfl (e116 (d + 2) hy1) ?_
  refine rn_steps 0 6 [.ref l0, .int l1, .int l2] [.int y1.1, .ref l0] rfl ?_
  refine rn_br (c := y1.1 = 0) rfl rfl decide_eq_true_iff (fun hb => ?_) (fun hb => ?_)
  · rw [if_pos hb] at h
    refine rn_steps 0 23 [.ref l0, .int l1, .int l2] [.ref l0] rfl ?_
    exact e68_23 d _ _ _ _ _ _ h
  · rw [if_neg hb] at h
    refine rn_steps 1 10 [.ref l0, .int l1, .int l2] [.int l2, .ref l0] rfl ?_
    refine rn_br (c := l2 < 0) rfl rfl decide_eq_true_iff (fun hb => ?_) (fun hb => ?_)
    · rw [if_pos hb] at h
      refine rn_steps 0 23 [.ref l0, .int l1, .int l2] [.ref l0] rfl ?_
      exact e68_23 d _ _ _ _ _ _ h
    · rw [if_neg hb] at h
      refine rn_steps 2 16 [.ref l0, .int l1, .int l2] [.int 6, .int l2, .ref l0] rfl ?_
      refine rn_br (c := 6 < l2) rfl rfl decide_eq_true_iff (fun hb => ?_) (fun hb => ?_)
      · rw [if_pos hb] at h
        refine rn_steps 0 23 [.ref l0, .int l1, .int l2] [.ref l0] rfl ?_
        exact e68_23 d _ _ _ _ _ _ h
      · rw [if_neg hb] at h
        refine rn_steps 2 24 [.ref l0, .int l1, .int l2] [.int 0, .ref l0] rfl ?_
        exact e68_24 d _ _ _ _ _ _ _ h
noncomputable def f117_26 (s0 : Int32) (σ : xM) : Option (Int32 × xM) :=
  rZ s0 σ
set_option maxRecDepth 20000 in
set_option maxHeartbeats 1000000 in
theorem e117_26 (d : Nat) (s0 : Int32) (x0 x1 x2 : Value) (σ : xM) (y : Int32 × xM) (h : f117_26 s0 σ = some y) : Rn (d + 1) 117 26 [x0, x1, x2] [.int s0] σ (some (.int y.1), y.2) := by
  unfold f117_26 at h
  exact rn_retZ rfl rfl h
noncomputable def f117_25 (σ : xM) : Option (Int32 × xM) :=
  f117_26 0 σ
set_option maxRecDepth 20000 in
set_option maxHeartbeats 1000000 in
theorem e117_25 (d : Nat) (x0 x1 x2 : Value) (σ : xM) (y : Int32 × xM) (h : f117_25 σ = some y) : Rn (d + 1) 117 25 [x0, x1, x2] [] σ (some (.int y.1), y.2) := by
  unfold f117_25 at h
  refine rn_steps 1 26 [x0, x1, x2] [.int 0] rfl ?_
  exact e117_26 d _ _ _ _ _ _ h
/-- LastAsked.areTwo(II)Z -/
noncomputable def f117 (l0 : Nat) (l1 : Int32) (l2 : Int32) (σ : xM) : Option (Int32 × xM) :=
  (cO σ l0 7).bind fun u4 =>
  (f116 l0 l1 σ).bind fun y1 =>
  if y1.1 = 0 then
  f117_25 y1.2
  else
  (cO y1.2 l0 7).bind fun u3 =>
  (f116 l0 l2 y1.2).bind fun y2 =>
  if y2.1 = 0 then
  f117_25 y2.2
  else
  if l1 = l2 then
  f117_25 y2.2
  else
  f117_26 1 y2.2
set_option maxRecDepth 20000 in
set_option maxHeartbeats 1000000 in
theorem e117 (d : Nat) {l0 : Nat} {l1 : Int32} {l2 : Int32} {σ : xM} {y : Int32 × xM} (h : f117 l0 l1 l2 σ = some y) : Rn (d + 1) 117 0 [.ref l0, .int l1, .int l2] [] σ (some (.int y.1), y.2) := by
  unfold f117 at h
  refine rn_steps 2 2 [.ref l0, .int l1, .int l2] [.int l1, .ref l0] rfl ?_
  obtain ⟨u4, hu4, h⟩ := Option.bind_eq_some_iff.mp h
  obtain ⟨y1, hy1, h⟩ := Option.bind_eq_some_iff.mp h
  refine rn_callV [.int l1] rfl rfl ⟨rfl, rfl⟩ hu4 rfl rfl (e116 d hy1) ?_
  refine rn_steps 0 5 [.ref l0, .int l1, .int l2] [.int y1.1] rfl ?_
  refine rn_br (c := y1.1 = 0) rfl rfl decide_eq_true_iff (fun hb => ?_) (fun hb => ?_)
  · rw [if_pos hb] at h
    refine rn_steps 0 25 [.ref l0, .int l1, .int l2] [] rfl ?_
    exact e117_25 d _ _ _ _ _ h
  · rw [if_neg hb] at h
    refine rn_steps 2 10 [.ref l0, .int l1, .int l2] [.int l2, .ref l0] rfl ?_
    obtain ⟨u3, hu3, h⟩ := Option.bind_eq_some_iff.mp h
    obtain ⟨y2, hy2, h⟩ := Option.bind_eq_some_iff.mp h
    refine rn_callV [.int l2] rfl rfl ⟨rfl, rfl⟩ hu3 rfl rfl (e116 d hy2) ?_
    refine rn_steps 0 13 [.ref l0, .int l1, .int l2] [.int y2.1] rfl ?_
    refine rn_br (c := y2.1 = 0) rfl rfl decide_eq_true_iff (fun hb => ?_) (fun hb => ?_)
    · rw [if_pos hb] at h
      refine rn_steps 0 25 [.ref l0, .int l1, .int l2] [] rfl ?_
      exact e117_25 d _ _ _ _ _ h
    · rw [if_neg hb] at h
      refine rn_steps 2 18 [.ref l0, .int l1, .int l2] [.int l2, .int l1] rfl ?_
      refine rn_br (c := l1 = l2) rfl rfl decide_eq_true_iff (fun hb => ?_) (fun hb => ?_)
      · rw [if_pos hb] at h
        refine rn_steps 0 25 [.ref l0, .int l1, .int l2] [] rfl ?_
        exact e117_25 d _ _ _ _ _ h
      · rw [if_neg hb] at h
        refine rn_steps 2 26 [.ref l0, .int l1, .int l2] [.int 1] rfl ?_
        exact e117_26 d _ _ _ _ _ _ h
noncomputable def f69_15 (l0 : Nat) (l1 : Int32) (l2 : Int32) (s0 : Int32) (s1 : Nat) (σ : xM) : Option (Int32 × xM) :=
  (cO σ s1 7).bind fun u6 =>
  (f114 s1 s0 σ).bind fun y1 =>
  if y1.1 = 0 then
  (gR y1.2 l0 7 2).bind fun r2 =>
  (gR y1.2 r2 4 6).bind fun r3 =>
  (f125 l1 l2 y1.2).bind fun y4 =>
  (aI y4.2 r3 y4.1).bind fun v5 =>
  some (v5, y4.2)
  else
  some ((-1), y1.2)
set_option maxRecDepth 20000 in
set_option maxHeartbeats 1000000 in
theorem e69_15 (d : Nat) (l0 : Nat) (l1 : Int32) (l2 : Int32) (s0 : Int32) (s1 : Nat) (σ : xM) (y : Int32 × xM) (h : f69_15 l0 l1 l2 s0 s1 σ = some y) : Rn (d + 2) 69 15 [.ref l0, .int l1, .int l2] [.int s0, .ref s1] σ (some (.int y.1), y.2) := by
  unfold f69_15 at h
  obtain ⟨u6, hu6, h⟩ := Option.bind_eq_some_iff.mp h
  obtain ⟨y1, hy1, h⟩ := Option.bind_eq_some_iff.mp h
  refine rn_callV [.int s0] rfl rfl ⟨rfl, rfl⟩ hu6 rfl rfl (e114 (d + 1) hy1) ?_
  refine rn_steps 0 18 [.ref l0, .int l1, .int l2] [.int y1.1] rfl ?_
  refine rn_br (c := y1.1 = 0) rfl rfl decide_eq_true_iff (fun hb => ?_) (fun hb => ?_)
  · rw [if_pos hb] at h
    refine rn_steps 1 24 [.ref l0, .int l1, .int l2] [.ref l0] rfl ?_
    obtain ⟨r2, hr2, h⟩ := Option.bind_eq_some_iff.mp h
    refine rn_gR (c := 7) (f := 2) rfl rfl ⟨⟨rfl, rfl⟩, rfl⟩ hr2 ?_
    refine rn_steps 0 27 [.ref l0, .int l1, .int l2] [.ref r2] rfl ?_
    obtain ⟨r3, hr3, h⟩ := Option.bind_eq_some_iff.mp h
    refine rn_gR (c := 4) (f := 6) rfl rfl ⟨⟨rfl, rfl⟩, rfl⟩ hr3 ?_
    refine rn_steps 2 32 [.ref l0, .int l1, .int l2] [.int l2, .int l1, .ref r3] rfl ?_
    obtain ⟨y4, hy4, h⟩ := Option.bind_eq_some_iff.mp h
    refine rn_callS [.int l1, .int l2] rfl rfl rfl ⟨rfl, rfl, rfl⟩ rfl rfl (e125 (d + 1) hy4) ?_
    refine rn_steps 0 35 [.ref l0, .int l1, .int l2] [.int y4.1, .ref r3] rfl ?_
    obtain ⟨v5, hv5, h⟩ := Option.bind_eq_some_iff.mp h
    refine rn_aI rfl hv5 ?_
    refine rn_steps 0 36 [.ref l0, .int l1, .int l2] [.int v5] rfl ?_
    cases h
    exact rn_ret rfl rfl rfl
  · rw [if_neg hb] at h
    refine rn_steps 1 22 [.ref l0, .int l1, .int l2] [.int (-1)] rfl ?_
    cases h
    exact rn_ret rfl rfl rfl
/-- LastAsked.register(II)I -/
noncomputable def f69 (l0 : Nat) (l1 : Int32) (l2 : Int32) (σ : xM) : Option (Int32 × xM) :=
  (cO σ l0 7).bind fun u2 =>
  (f117 l0 l1 l2 σ).bind fun y1 =>
  if y1.1 = 0 then
  f69_15 l0 l1 l2 1 l0 y1.2
  else
  f69_15 l0 l1 l2 0 l0 y1.2
set_option maxRecDepth 20000 in
set_option maxHeartbeats 1000000 in
theorem e69 (d : Nat) {l0 : Nat} {l1 : Int32} {l2 : Int32} {σ : xM} {y : Int32 × xM} (h : f69 l0 l1 l2 σ = some y) : Rn (d + 2) 69 0 [.ref l0, .int l1, .int l2] [] σ (some (.int y.1), y.2) := by
  unfold f69 at h
  refine rn_steps 4 4 [.ref l0, .int l1, .int l2] [.int l2, .int l1, .ref l0, .ref l0] rfl ?_
  obtain ⟨u2, hu2, h⟩ := Option.bind_eq_some_iff.mp h
  obtain ⟨y1, hy1, h⟩ := Option.bind_eq_some_iff.mp h
  refine rn_callV [.int l1, .int l2] rfl rfl ⟨rfl, rfl⟩ hu2 rfl rfl (e117 d hy1) ?_
  refine rn_steps 0 7 [.ref l0, .int l1, .int l2] [.int y1.1, .ref l0] rfl ?_
  refine rn_br (c := y1.1 = 0) rfl rfl decide_eq_true_iff (fun hb => ?_) (fun hb => ?_)
  · rw [if_pos hb] at h
    refine rn_steps 1 15 [.ref l0, .int l1, .int l2] [.int 1, .ref l0] rfl ?_
    exact e69_15 d _ _ _ _ _ _ _ h
  · rw [if_neg hb] at h
    refine rn_steps 2 15 [.ref l0, .int l1, .int l2] [.int 0, .ref l0] rfl ?_
    exact e69_15 d _ _ _ _ _ _ _ h
noncomputable def f119_28 (s0 : Int32) (σ : xM) : Option (Int32 × xM) :=
  some (s0, σ)
set_option maxRecDepth 20000 in
set_option maxHeartbeats 1000000 in
theorem e119_28 (d : Nat) (s0 : Int32) (x0 x1 : Value) (σ : xM) (y : Int32 × xM) (h : f119_28 s0 σ = some y) : Rn (d + 2) 119 28 [x0, x1] [.int s0] σ (some (.int y.1), y.2) := by
  unfold f119_28 at h
  cases h
  exact rn_ret rfl rfl rfl
/-- LastAsked.livesOr(I)I -/
noncomputable def f119 (l0 : Nat) (l1 : Int32) (σ : xM) : Option (Int32 × xM) :=
  (cO σ l0 7).bind fun u5 =>
  (f116 l0 l1 σ).bind fun y1 =>
  if y1.1 = 0 then
  f119_28 1 y1.2
  else
  (gR y1.2 l0 7 2).bind fun r2 =>
  (cO y1.2 r2 4).bind fun u4 =>
  (f48 r2 l1 y1.2).bind fun y3 =>
  if y3.1 = 0 then
  f119_28 5 y3.2
  else
  f119_28 0 y3.2
set_option maxRecDepth 20000 in
set_option maxHeartbeats 1000000 in
theorem e119 (d : Nat) {l0 : Nat} {l1 : Int32} {σ : xM} {y : Int32 × xM} (h : f119 l0 l1 σ = some y) : Rn (d + 2) 119 0 [.ref l0, .int l1] [] σ (some (.int y.1), y.2) := by
  unfold f119 at h
  refine rn_steps 2 2 [.ref l0, .int l1] [.int l1, .ref l0] rfl ?_
  obtain ⟨u5, hu5, h⟩ := Option.bind_eq_some_iff.mp h
  obtain ⟨y1, hy1, h⟩ := Option.bind_eq_some_iff.mp h
  refine rn_callV [.int l1] rfl rfl ⟨rfl, rfl⟩ hu5 rfl rfl (e116 (d + 1) hy1) ?_
  refine rn_steps 0 5 [.ref l0, .int l1] [.int y1.1] rfl ?_
  refine rn_br (c := ¬ y1.1 = 0) rfl rfl decide_eq_true_iff (fun hb => ?_) (fun hb => ?_)
  · rw [if_neg hb] at h
    refine rn_steps 1 13 [.ref l0, .int l1] [.ref l0] rfl ?_
    obtain ⟨r2, hr2, h⟩ := Option.bind_eq_some_iff.mp h
    refine rn_gR (c := 7) (f := 2) rfl rfl ⟨⟨rfl, rfl⟩, rfl⟩ hr2 ?_
    refine rn_steps 1 17 [.ref l0, .int l1] [.int l1, .ref r2] rfl ?_
    obtain ⟨u4, hu4, h⟩ := Option.bind_eq_some_iff.mp h
    obtain ⟨y3, hy3, h⟩ := Option.bind_eq_some_iff.mp h
    refine rn_callV [.int l1] rfl rfl ⟨rfl, rfl⟩ hu4 rfl rfl (e48 d hy3) ?_
    refine rn_steps 0 20 [.ref l0, .int l1] [.int y3.1] rfl ?_
    refine rn_br (c := y3.1 = 0) rfl rfl decide_eq_true_iff (fun hb => ?_) (fun hb => ?_)
    · rw [if_pos hb] at h
      refine rn_steps 1 28 [.ref l0, .int l1] [.int 5] rfl ?_
      exact e119_28 d _ _ _ _ _ h
    · rw [if_neg hb] at h
      refine rn_steps 2 28 [.ref l0, .int l1] [.int 0] rfl ?_
      exact e119_28 d _ _ _ _ _ h
  · rw [if_pos (Decidable.not_not.mp hb)] at h
    refine rn_steps 2 28 [.ref l0, .int l1] [.int 1] rfl ?_
    exact e119_28 d _ _ _ _ _ h
/-- LastAsked.willsNow()LLastAsked$Wills; -/
noncomputable def f129 (l0 : Nat) (σ : xM) : Option (Nat × xM) :=
  (gR σ l0 7 5).bind fun r1 =>
  (gR σ l0 7 2).bind fun r2 =>
  (gR σ r2 4 6).bind fun r3 =>
  (gR σ l0 7 2).bind fun r4 =>
  (gI σ r4 4 4).bind fun v5 =>
  (cO σ r1 6).bind fun u8 =>
  (f57 r1 r3 v5 σ).bind fun y6 =>
  (gR y6 l0 7 5).bind fun r7 =>
  some (r7, y6)
set_option maxRecDepth 20000 in
set_option maxHeartbeats 1000000 in
theorem e129 (d : Nat) {l0 : Nat} {σ : xM} {y : Nat × xM} (h : f129 l0 σ = some y) : Rn (d + 3) 129 0 [.ref l0] [] σ (some (.ref y.1), y.2) := by
  unfold f129 at h
  refine rn_steps 1 1 [.ref l0] [.ref l0] rfl ?_
  obtain ⟨r1, hr1, h⟩ := Option.bind_eq_some_iff.mp h
  refine rn_gR (c := 7) (f := 5) rfl rfl ⟨⟨rfl, rfl⟩, rfl⟩ hr1 ?_
  refine rn_steps 1 5 [.ref l0] [.ref l0, .ref r1] rfl ?_
  obtain ⟨r2, hr2, h⟩ := Option.bind_eq_some_iff.mp h
  refine rn_gR (c := 7) (f := 2) rfl rfl ⟨⟨rfl, rfl⟩, rfl⟩ hr2 ?_
  refine rn_steps 0 8 [.ref l0] [.ref r2, .ref r1] rfl ?_
  obtain ⟨r3, hr3, h⟩ := Option.bind_eq_some_iff.mp h
  refine rn_gR (c := 4) (f := 6) rfl rfl ⟨⟨rfl, rfl⟩, rfl⟩ hr3 ?_
  refine rn_steps 1 12 [.ref l0] [.ref l0, .ref r3, .ref r1] rfl ?_
  obtain ⟨r4, hr4, h⟩ := Option.bind_eq_some_iff.mp h
  refine rn_gR (c := 7) (f := 2) rfl rfl ⟨⟨rfl, rfl⟩, rfl⟩ hr4 ?_
  refine rn_steps 0 15 [.ref l0] [.ref r4, .ref r3, .ref r1] rfl ?_
  obtain ⟨v5, hv5, h⟩ := Option.bind_eq_some_iff.mp h
  refine rn_gI (c := 4) (f := 4) rfl rfl ⟨⟨rfl, rfl⟩, Or.inl rfl⟩ hv5 ?_
  refine rn_steps 0 18 [.ref l0] [.int v5, .ref r3, .ref r1] rfl ?_
  obtain ⟨u8, hu8, h⟩ := Option.bind_eq_some_iff.mp h
  obtain ⟨y6, hy6, h⟩ := Option.bind_eq_some_iff.mp h
  refine rn_callV [.ref r3, .int v5] rfl rfl ⟨rfl, rfl⟩ hu8 rfl rfl (e57 d hy6) ?_
  refine rn_steps 1 22 [.ref l0] [.ref l0] rfl ?_
  obtain ⟨r7, hr7, h⟩ := Option.bind_eq_some_iff.mp h
  refine rn_gR (c := 7) (f := 5) rfl rfl ⟨⟨rfl, rfl⟩, rfl⟩ hr7 ?_
  refine rn_steps 0 25 [.ref l0] [.ref r7] rfl ?_
  cases h
  exact rn_ret rfl rfl rfl
/-- LastAsked.heir(I)I -/
noncomputable def f70 (l0 : Nat) (l1 : Int32) (σ : xM) : Option (Int32 × xM) :=
  (cO σ l0 7).bind fun u8 =>
  (f119 l0 l1 σ).bind fun y1 =>
  (cO y1.2 l0 7).bind fun u7 =>
  (f114 l0 y1.1 y1.2).bind fun y2 =>
  if y2.1 = 0 then
  (cO y2.2 l0 7).bind fun u6 =>
  (f129 l0 y2.2).bind fun y3 =>
  (gR y3.2 y3.1 6 0).bind fun r4 =>
  (aI y3.2 r4 l1).bind fun v5 =>
  some (v5, y3.2)
  else
  some ((-1), y2.2)
set_option maxRecDepth 20000 in
set_option maxHeartbeats 1000000 in
theorem e70 (d : Nat) {l0 : Nat} {l1 : Int32} {σ : xM} {y : Int32 × xM} (h : f70 l0 l1 σ = some y) : Rn (d + 4) 70 0 [.ref l0, .int l1] [] σ (some (.int y.1), y.2) := by
  unfold f70 at h
  refine rn_steps 3 3 [.ref l0, .int l1] [.int l1, .ref l0, .ref l0] rfl ?_
  obtain ⟨u8, hu8, h⟩ := Option.bind_eq_some_iff.mp h
  obtain ⟨y1, hy1, h⟩ := Option.bind_eq_some_iff.mp h
  refine rn_callV [.int l1] rfl rfl ⟨rfl, rfl⟩ hu8 rfl rfl (e119 (d + 1) hy1) ?_
  refine rn_steps 0 6 [.ref l0, .int l1] [.int y1.1, .ref l0] rfl ?_
  obtain ⟨u7, hu7, h⟩ := Option.bind_eq_some_iff.mp h
  obtain ⟨y2, hy2, h⟩ := Option.bind_eq_some_iff.mp h
  refine rn_callV [.int y1.1] rfl rfl ⟨rfl, rfl⟩ hu7 rfl rfl (e114 (d + 3) hy2) ?_
  refine rn_steps 0 9 [.ref l0, .int l1] [.int y2.1] rfl ?_
  refine rn_br (c := y2.1 = 0) rfl rfl decide_eq_true_iff (fun hb => ?_) (fun hb => ?_)
  · rw [if_pos hb] at h
    refine rn_steps 1 15 [.ref l0, .int l1] [.ref l0] rfl ?_
    obtain ⟨u6, hu6, h⟩ := Option.bind_eq_some_iff.mp h
    obtain ⟨y3, hy3, h⟩ := Option.bind_eq_some_iff.mp h
    refine rn_callV [] rfl rfl ⟨rfl, rfl⟩ hu6 rfl rfl (e129 d hy3) ?_
    refine rn_steps 0 18 [.ref l0, .int l1] [.ref y3.1] rfl ?_
    obtain ⟨r4, hr4, h⟩ := Option.bind_eq_some_iff.mp h
    refine rn_gR (c := 6) (f := 0) rfl rfl ⟨⟨rfl, rfl⟩, rfl⟩ hr4 ?_
    refine rn_steps 1 22 [.ref l0, .int l1] [.int l1, .ref r4] rfl ?_
    obtain ⟨v5, hv5, h⟩ := Option.bind_eq_some_iff.mp h
    refine rn_aI rfl hv5 ?_
    refine rn_steps 0 23 [.ref l0, .int l1] [.int v5] rfl ?_
    cases h
    exact rn_ret rfl rfl rfl
  · rw [if_neg hb] at h
    refine rn_steps 1 13 [.ref l0, .int l1] [.int (-1)] rfl ?_
    cases h
    exact rn_ret rfl rfl rfl
noncomputable def f130_51 (l2 : Int32) (σ : xM) : Option (Int32 × xM) :=
  some (l2, σ)
set_option maxRecDepth 20000 in
set_option maxHeartbeats 1000000 in
theorem e130_51 (d : Nat) (l2 : Int32) (x0 x1 x3 : Value) (σ : xM) (y : Int32 × xM) (h : f130_51 l2 σ = some y) : Rn (d + 4) 130 51 [x0, x1, .int l2, x3] [] σ (some (.int y.1), y.2) := by
  unfold f130_51 at h
  refine rn_steps 1 52 [x0, x1, .int l2, x3] [.int l2] rfl ?_
  cases h
  exact rn_ret rfl rfl rfl
noncomputable def f130_45 (K9 : Nat → Int32 → Int32 → Int32 → xM → Option (Int32 × xM)) (l0 : Nat) (l1 : Int32) (l2 : Int32) (l3 : Int32) (σ : xM) : Option (Int32 × xM) :=
  K9 l0 l1 l2 (l3 + 1) σ
set_option maxRecDepth 20000 in
set_option maxHeartbeats 1000000 in
theorem e130_45 (d : Nat) (K9 : Nat → Int32 → Int32 → Int32 → xM → Option (Int32 × xM)) (hK9 : ∀ (l0 : Nat) (l1 : Int32) (l2 : Int32) (l3 : Int32) (σ : xM) (y : Int32 × xM), K9 l0 l1 l2 l3 σ = some y → Rn (d + 4) 130 9 [.ref l0, .int l1, .int l2, .int l3] [] σ (some (.int y.1), y.2)) (l0 : Nat) (l1 : Int32) (l2 : Int32) (l3 : Int32) (σ : xM) (y : Int32 × xM) (h : f130_45 K9 l0 l1 l2 l3 σ = some y) : Rn (d + 4) 130 45 [.ref l0, .int l1, .int l2, .int l3] [] σ (some (.int y.1), y.2) := by
  unfold f130_45 at h
  refine rn_steps 2 9 [.ref l0, .int l1, .int l2, .int (l3 + 1)] [] rfl ?_
  exact hK9 _ _ _ _ _ _ h
noncomputable def f130_9 : Nat → Nat → Int32 → Int32 → Int32 → xM → Option (Int32 × xM)
  | 0, _, _, _, _, _ => none
  | n + 1, l0, l1, l2, l3, σ =>
    if 6 ≤ l3 then
    f130_51 l2 σ
    else
    (gR σ l0 7 2).bind fun r1 =>
    (cO σ r1 4).bind fun u6 =>
    (f48 r1 l3 σ).bind fun y2 =>
    if y2.1 = 0 then
    f130_45 (f130_9 n) l0 l1 l2 l3 y2.2
    else
    (gR y2.2 l0 7 5).bind fun r3 =>
    (gR y2.2 r3 6 0).bind fun r4 =>
    (aI y2.2 r4 l3).bind fun v5 =>
    if v5 = l1 then
    f130_45 (f130_9 n) l0 l1 (l2 ||| (1 <<< (l3 &&& 31))) l3 y2.2
    else
    f130_45 (f130_9 n) l0 l1 l2 l3 y2.2
set_option maxRecDepth 20000 in
set_option maxHeartbeats 1000000 in
theorem e130_9 (d : Nat) : ∀ (n : Nat) (l0 : Nat) (l1 : Int32) (l2 : Int32) (l3 : Int32) (σ : xM) (y : Int32 × xM), f130_9 n l0 l1 l2 l3 σ = some y → Rn (d + 4) 130 9 [.ref l0, .int l1, .int l2, .int l3] [] σ (some (.int y.1), y.2) := by
  intro n
  induction n with
  | zero => intro l0 l1 l2 l3 σ y h; cases h
  | succ n ih =>
    intro l0 l1 l2 l3 σ y h
    unfold f130_9 at h
    refine rn_steps 2 12 [.ref l0, .int l1, .int l2, .int l3] [.int 6, .int l3] rfl ?_
    refine rn_br (c := 6 ≤ l3) rfl rfl decide_eq_true_iff (fun hb => ?_) (fun hb => ?_)
    · rw [if_pos hb] at h
      refine rn_steps 0 51 [.ref l0, .int l1, .int l2, .int l3] [] rfl ?_
      exact e130_51 d _ _ _ _ _ _ h
    · rw [if_neg hb] at h
      refine rn_steps 1 16 [.ref l0, .int l1, .int l2, .int l3] [.ref l0] rfl ?_
      obtain ⟨r1, hr1, h⟩ := Option.bind_eq_some_iff.mp h
      refine rn_gR (c := 7) (f := 2) rfl rfl ⟨⟨rfl, rfl⟩, rfl⟩ hr1 ?_
      refine rn_steps 1 20 [.ref l0, .int l1, .int l2, .int l3] [.int l3, .ref r1] rfl ?_
      obtain ⟨u6, hu6, h⟩ := Option.bind_eq_some_iff.mp h
      obtain ⟨y2, hy2, h⟩ := Option.bind_eq_some_iff.mp h
      refine rn_callV [.int l3] rfl rfl ⟨rfl, rfl⟩ hu6 rfl rfl (e48 (d + 2) hy2) ?_
      refine rn_steps 0 23 [.ref l0, .int l1, .int l2, .int l3] [.int y2.1] rfl ?_
      refine rn_br (c := y2.1 = 0) rfl rfl decide_eq_true_iff (fun hb => ?_) (fun hb => ?_)
      · rw [if_pos hb] at h
        refine rn_steps 0 45 [.ref l0, .int l1, .int l2, .int l3] [] rfl ?_
        exact e130_45 d _ ih _ _ _ _ _ _ h
      · rw [if_neg hb] at h
        refine rn_steps 1 27 [.ref l0, .int l1, .int l2, .int l3] [.ref l0] rfl ?_
        obtain ⟨r3, hr3, h⟩ := Option.bind_eq_some_iff.mp h
        refine rn_gR (c := 7) (f := 5) rfl rfl ⟨⟨rfl, rfl⟩, rfl⟩ hr3 ?_
        refine rn_steps 0 30 [.ref l0, .int l1, .int l2, .int l3] [.ref r3] rfl ?_
        obtain ⟨r4, hr4, h⟩ := Option.bind_eq_some_iff.mp h
        refine rn_gR (c := 6) (f := 0) rfl rfl ⟨⟨rfl, rfl⟩, rfl⟩ hr4 ?_
        refine rn_steps 1 34 [.ref l0, .int l1, .int l2, .int l3] [.int l3, .ref r4] rfl ?_
        obtain ⟨v5, hv5, h⟩ := Option.bind_eq_some_iff.mp h
        refine rn_aI rfl hv5 ?_
        refine rn_steps 1 36 [.ref l0, .int l1, .int l2, .int l3] [.int l1, .int v5] rfl ?_
        refine rn_br (c := ¬ v5 = l1) rfl rfl decide_eq_true_iff (fun hb => ?_) (fun hb => ?_)
        · rw [if_neg hb] at h
          refine rn_steps 0 45 [.ref l0, .int l1, .int l2, .int l3] [] rfl ?_
          exact e130_45 d _ ih _ _ _ _ _ _ h
        · rw [if_pos (Decidable.not_not.mp hb)] at h
          refine rn_steps 6 45 [.ref l0, .int l1, .int (l2 ||| (1 <<< (l3 &&& 31))), .int l3] [] rfl ?_
          exact e130_45 d _ ih _ _ _ _ _ _ h
/-- LastAsked.heirsTo(I)I -/
noncomputable def f130 (l0 : Nat) (l1 : Int32) (σ : xM) : Option (Int32 × xM) :=
  (cO σ l0 7).bind fun u2 =>
  (f129 l0 σ).bind fun y1 =>
  f130_9 1100 l0 l1 0 0 y1.2
set_option maxRecDepth 20000 in
set_option maxHeartbeats 1000000 in
theorem e130 (d : Nat) {l0 : Nat} {l1 : Int32} {σ : xM} {y : Int32 × xM} (h : f130 l0 l1 σ = some y) : Rn (d + 4) 130 0 [.ref l0, .int l1, .retAddr 0, .retAddr 0] [] σ (some (.int y.1), y.2) := by
  unfold f130 at h
  refine rn_steps 1 1 [.ref l0, .int l1, .retAddr 0, .retAddr 0] [.ref l0] rfl ?_
  obtain ⟨u2, hu2, h⟩ := Option.bind_eq_some_iff.mp h
  obtain ⟨y1, hy1, h⟩ := Option.bind_eq_some_iff.mp h
  refine rn_callV [] rfl rfl ⟨rfl, rfl⟩ hu2 rfl rfl (e129 d hy1) ?_
  refine rn_steps 5 9 [.ref l0, .int l1, .int 0, .int 0] [] rfl ?_
  exact e130_9 d 1100 _ _ _ _ _ _ h
noncomputable def f71_14 (l0 : Nat) (l1 : Int32) (s0 : Int32) (s1 : Nat) (σ : xM) : Option (Int32 × xM) :=
  (cO σ s1 7).bind fun u4 =>
  (f114 s1 s0 σ).bind fun y1 =>
  if y1.1 = 0 then
  (cO y1.2 l0 7).bind fun u3 =>
  (f130 l0 l1 y1.2).bind fun y2 =>
  some (y2.1, y2.2)
  else
  some ((-1), y1.2)
set_option maxRecDepth 20000 in
set_option maxHeartbeats 1000000 in
theorem e71_14 (d : Nat) (l0 : Nat) (l1 : Int32) (s0 : Int32) (s1 : Nat) (σ : xM) (y : Int32 × xM) (h : f71_14 l0 l1 s0 s1 σ = some y) : Rn (d + 5) 71 14 [.ref l0, .int l1] [.int s0, .ref s1] σ (some (.int y.1), y.2) := by
  unfold f71_14 at h
  obtain ⟨u4, hu4, h⟩ := Option.bind_eq_some_iff.mp h
  obtain ⟨y1, hy1, h⟩ := Option.bind_eq_some_iff.mp h
  refine rn_callV [.int s0] rfl rfl ⟨rfl, rfl⟩ hu4 rfl rfl (e114 (d + 4) hy1) ?_
  refine rn_steps 0 17 [.ref l0, .int l1] [.int y1.1] rfl ?_
  refine rn_br (c := y1.1 = 0) rfl rfl decide_eq_true_iff (fun hb => ?_) (fun hb => ?_)
  · rw [if_pos hb] at h
    refine rn_steps 2 24 [.ref l0, .int l1] [.int l1, .ref l0] rfl ?_
    obtain ⟨u3, hu3, h⟩ := Option.bind_eq_some_iff.mp h
    obtain ⟨y2, hy2, h⟩ := Option.bind_eq_some_iff.mp h
    refine rn_callV [.int l1] rfl rfl ⟨rfl, rfl⟩ hu3 rfl rfl (e130 d hy2) ?_
    refine rn_steps 0 27 [.ref l0, .int l1] [.int y2.1] rfl ?_
    cases h
    exact rn_ret rfl rfl rfl
  · rw [if_neg hb] at h
    refine rn_steps 1 21 [.ref l0, .int l1] [.int (-1)] rfl ?_
    cases h
    exact rn_ret rfl rfl rfl
/-- LastAsked.heirTo(I)I -/
noncomputable def f71 (l0 : Nat) (l1 : Int32) (σ : xM) : Option (Int32 × xM) :=
  (cO σ l0 7).bind fun u2 =>
  (f116 l0 l1 σ).bind fun y1 =>
  if y1.1 = 0 then
  f71_14 l0 l1 1 l0 y1.2
  else
  f71_14 l0 l1 0 l0 y1.2
set_option maxRecDepth 20000 in
set_option maxHeartbeats 1000000 in
theorem e71 (d : Nat) {l0 : Nat} {l1 : Int32} {σ : xM} {y : Int32 × xM} (h : f71 l0 l1 σ = some y) : Rn (d + 5) 71 0 [.ref l0, .int l1] [] σ (some (.int y.1), y.2) := by
  unfold f71 at h
  refine rn_steps 3 3 [.ref l0, .int l1] [.int l1, .ref l0, .ref l0] rfl ?_
  obtain ⟨u2, hu2, h⟩ := Option.bind_eq_some_iff.mp h
  obtain ⟨y1, hy1, h⟩ := Option.bind_eq_some_iff.mp h
  refine rn_callV [.int l1] rfl rfl ⟨rfl, rfl⟩ hu2 rfl rfl (e116 (d + 4) hy1) ?_
  refine rn_steps 0 6 [.ref l0, .int l1] [.int y1.1, .ref l0] rfl ?_
  refine rn_br (c := y1.1 = 0) rfl rfl decide_eq_true_iff (fun hb => ?_) (fun hb => ?_)
  · rw [if_pos hb] at h
    refine rn_steps 1 14 [.ref l0, .int l1] [.int 1, .ref l0] rfl ?_
    exact e71_14 d _ _ _ _ _ _ h
  · rw [if_neg hb] at h
    refine rn_steps 2 14 [.ref l0, .int l1] [.int 0, .ref l0] rfl ?_
    exact e71_14 d _ _ _ _ _ _ h
noncomputable def f131_72 (l3 : Int32) (σ : xM) : Option (Int32 × xM) :=
  some (l3, σ)
set_option maxRecDepth 20000 in
set_option maxHeartbeats 1000000 in
theorem e131_72 (d : Nat) (l3 : Int32) (x0 x1 x2 x4 : Value) (σ : xM) (y : Int32 × xM) (h : f131_72 l3 σ = some y) : Rn (d + 2) 131 72 [x0, x1, x2, .int l3, x4] [] σ (some (.int y.1), y.2) := by
  unfold f131_72 at h
  refine rn_steps 1 73 [x0, x1, x2, .int l3, x4] [.int l3] rfl ?_
  cases h
  exact rn_ret rfl rfl rfl
noncomputable def f131_66 (K23 : Nat → Int32 → Int32 → Int32 → Int32 → xM → Option (Int32 × xM)) (l0 : Nat) (l1 : Int32) (l2 : Int32) (l3 : Int32) (l4 : Int32) (σ : xM) : Option (Int32 × xM) :=
  K23 l0 l1 l2 l3 (l4 + 1) σ
set_option maxRecDepth 20000 in
set_option maxHeartbeats 1000000 in
theorem e131_66 (d : Nat) (K23 : Nat → Int32 → Int32 → Int32 → Int32 → xM → Option (Int32 × xM)) (hK23 : ∀ (l0 : Nat) (l1 : Int32) (l2 : Int32) (l3 : Int32) (l4 : Int32) (σ : xM) (y : Int32 × xM), K23 l0 l1 l2 l3 l4 σ = some y → Rn (d + 2) 131 23 [.ref l0, .int l1, .int l2, .int l3, .int l4] [] σ (some (.int y.1), y.2)) (l0 : Nat) (l1 : Int32) (l2 : Int32) (l3 : Int32) (l4 : Int32) (σ : xM) (y : Int32 × xM) (h : f131_66 K23 l0 l1 l2 l3 l4 σ = some y) : Rn (d + 2) 131 66 [.ref l0, .int l1, .int l2, .int l3, .int l4] [] σ (some (.int y.1), y.2) := by
  unfold f131_66 at h
  refine rn_steps 2 23 [.ref l0, .int l1, .int l2, .int l3, .int (l4 + 1)] [] rfl ?_
  exact hK23 _ _ _ _ _ _ _ h
noncomputable def f131_23 : Nat → Nat → Int32 → Int32 → Int32 → Int32 → xM → Option (Int32 × xM)
  | 0, _, _, _, _, _, _ => none
  | n + 1, l0, l1, l2, l3, l4, σ =>
    if 6 ≤ l4 then
    f131_72 l3 σ
    else
    (f124 l2 l4 σ).bind fun y1 =>
    if y1.1 = 0 then
    f131_66 (f131_23 n) l0 l1 l2 l3 l4 y1.2
    else
    (gR y1.2 l0 7 5).bind fun r2 =>
    (cO y1.2 r2 6).bind fun u7 =>
    (f59 r2 l4 l2 y1.2).bind fun y3 =>
    if y3.1 = l1 then
    (gR y3.2 l0 7 2).bind fun r4 =>
    (gR y3.2 r4 4 5).bind fun r5 =>
    (aI y3.2 r5 l4).bind fun v6 =>
    f131_66 (f131_23 n) l0 l1 l2 (l3 + v6) l4 y3.2
    else
    f131_66 (f131_23 n) l0 l1 l2 l3 l4 y3.2
set_option maxRecDepth 20000 in
set_option maxHeartbeats 1000000 in
theorem e131_23 (d : Nat) : ∀ (n : Nat) (l0 : Nat) (l1 : Int32) (l2 : Int32) (l3 : Int32) (l4 : Int32) (σ : xM) (y : Int32 × xM), f131_23 n l0 l1 l2 l3 l4 σ = some y → Rn (d + 2) 131 23 [.ref l0, .int l1, .int l2, .int l3, .int l4] [] σ (some (.int y.1), y.2) := by
  intro n
  induction n with
  | zero => intro l0 l1 l2 l3 l4 σ y h; cases h
  | succ n ih =>
    intro l0 l1 l2 l3 l4 σ y h
    unfold f131_23 at h
    refine rn_steps 2 27 [.ref l0, .int l1, .int l2, .int l3, .int l4] [.int 6, .int l4] rfl ?_
    refine rn_br (c := 6 ≤ l4) rfl rfl decide_eq_true_iff (fun hb => ?_) (fun hb => ?_)
    · rw [if_pos hb] at h
      refine rn_steps 0 72 [.ref l0, .int l1, .int l2, .int l3, .int l4] [] rfl ?_
      exact e131_72 d _ _ _ _ _ _ _ h
    · rw [if_neg hb] at h
      refine rn_steps 2 33 [.ref l0, .int l1, .int l2, .int l3, .int l4] [.int l4, .int l2] rfl ?_
      obtain ⟨y1, hy1, h⟩ := Option.bind_eq_some_iff.mp h
      refine rn_callS [.int l2, .int l4] rfl rfl rfl ⟨rfl, rfl, rfl⟩ rfl rfl (e124 (d + 1) hy1) ?_
      refine rn_steps 0 36 [.ref l0, .int l1, .int l2, .int l3, .int l4] [.int y1.1] rfl ?_
      refine rn_br (c := y1.1 = 0) rfl rfl decide_eq_true_iff (fun hb => ?_) (fun hb => ?_)
      · rw [if_pos hb] at h
        refine rn_steps 0 66 [.ref l0, .int l1, .int l2, .int l3, .int l4] [] rfl ?_
        exact e131_66 d _ ih _ _ _ _ _ _ _ h
      · rw [if_neg hb] at h
        refine rn_steps 1 40 [.ref l0, .int l1, .int l2, .int l3, .int l4] [.ref l0] rfl ?_
        obtain ⟨r2, hr2, h⟩ := Option.bind_eq_some_iff.mp h
        refine rn_gR (c := 7) (f := 5) rfl rfl ⟨⟨rfl, rfl⟩, rfl⟩ hr2 ?_
        refine rn_steps 2 46 [.ref l0, .int l1, .int l2, .int l3, .int l4] [.int l2, .int l4, .ref r2] rfl ?_
        obtain ⟨u7, hu7, h⟩ := Option.bind_eq_some_iff.mp h
        obtain ⟨y3, hy3, h⟩ := Option.bind_eq_some_iff.mp h
        refine rn_callV [.int l4, .int l2] rfl rfl ⟨rfl, rfl⟩ hu7 rfl rfl (e59 d hy3) ?_
        refine rn_steps 1 50 [.ref l0, .int l1, .int l2, .int l3, .int l4] [.int l1, .int y3.1] rfl ?_
        refine rn_br (c := ¬ y3.1 = l1) rfl rfl decide_eq_true_iff (fun hb => ?_) (fun hb => ?_)
        · rw [if_neg hb] at h
          refine rn_steps 0 66 [.ref l0, .int l1, .int l2, .int l3, .int l4] [] rfl ?_
          exact e131_66 d _ ih _ _ _ _ _ _ _ h
        · rw [if_pos (Decidable.not_not.mp hb)] at h
          refine rn_steps 2 55 [.ref l0, .int l1, .int l2, .int l3, .int l4] [.ref l0, .int l3] rfl ?_
          obtain ⟨r4, hr4, h⟩ := Option.bind_eq_some_iff.mp h
          refine rn_gR (c := 7) (f := 2) rfl rfl ⟨⟨rfl, rfl⟩, rfl⟩ hr4 ?_
          refine rn_steps 0 58 [.ref l0, .int l1, .int l2, .int l3, .int l4] [.ref r4, .int l3] rfl ?_
          obtain ⟨r5, hr5, h⟩ := Option.bind_eq_some_iff.mp h
          refine rn_gR (c := 4) (f := 5) rfl rfl ⟨⟨rfl, rfl⟩, rfl⟩ hr5 ?_
          refine rn_steps 1 63 [.ref l0, .int l1, .int l2, .int l3, .int l4] [.int l4, .ref r5, .int l3] rfl ?_
          obtain ⟨v6, hv6, h⟩ := Option.bind_eq_some_iff.mp h
          refine rn_aI rfl hv6 ?_
          refine rn_steps 2 66 [.ref l0, .int l1, .int l2, .int (l3 + v6), .int l4] [] rfl ?_
          exact e131_66 d _ ih _ _ _ _ _ _ _ h
/-- LastAsked.hasBehind(II)I -/
noncomputable def f131 (l0 : Nat) (l1 : Int32) (l2 : Int32) (σ : xM) : Option (Int32 × xM) :=
  (f124 l2 l1 σ).bind fun y1 =>
  if y1.1 = 0 then
  (gR y1.2 l0 7 2).bind fun r2 =>
  (gR y1.2 r2 4 5).bind fun r3 =>
  (aI y1.2 r3 l1).bind fun v4 =>
  f131_23 1100 l0 l1 l2 v4 0 y1.2
  else
  some (0, y1.2)
set_option maxRecDepth 20000 in
set_option maxHeartbeats 1000000 in
theorem e131 (d : Nat) {l0 : Nat} {l1 : Int32} {l2 : Int32} {σ : xM} {y : Int32 × xM} (h : f131 l0 l1 l2 σ = some y) : Rn (d + 2) 131 0 [.ref l0, .int l1, .int l2, .retAddr 0, .retAddr 0] [] σ (some (.int y.1), y.2) := by
  unfold f131 at h
  refine rn_steps 2 2 [.ref l0, .int l1, .int l2, .retAddr 0, .retAddr 0] [.int l1, .int l2] rfl ?_
  obtain ⟨y1, hy1, h⟩ := Option.bind_eq_some_iff.mp h
  refine rn_callS [.int l2, .int l1] rfl rfl rfl ⟨rfl, rfl, rfl⟩ rfl rfl (e124 (d + 1) hy1) ?_
  refine rn_steps 0 5 [.ref l0, .int l1, .int l2, .retAddr 0, .retAddr 0] [.int y1.1] rfl ?_
  refine rn_br (c := y1.1 = 0) rfl rfl decide_eq_true_iff (fun hb => ?_) (fun hb => ?_)
  · rw [if_pos hb] at h
    refine rn_steps 1 11 [.ref l0, .int l1, .int l2, .retAddr 0, .retAddr 0] [.ref l0] rfl ?_
    obtain ⟨r2, hr2, h⟩ := Option.bind_eq_some_iff.mp h
    refine rn_gR (c := 7) (f := 2) rfl rfl ⟨⟨rfl, rfl⟩, rfl⟩ hr2 ?_
    refine rn_steps 0 14 [.ref l0, .int l1, .int l2, .retAddr 0, .retAddr 0] [.ref r2] rfl ?_
    obtain ⟨r3, hr3, h⟩ := Option.bind_eq_some_iff.mp h
    refine rn_gR (c := 4) (f := 5) rfl rfl ⟨⟨rfl, rfl⟩, rfl⟩ hr3 ?_
    refine rn_steps 1 18 [.ref l0, .int l1, .int l2, .retAddr 0, .retAddr 0] [.int l1, .ref r3] rfl ?_
    obtain ⟨v4, hv4, h⟩ := Option.bind_eq_some_iff.mp h
    refine rn_aI rfl hv4 ?_
    refine rn_steps 3 23 [.ref l0, .int l1, .int l2, .int v4, .int 0] [] rfl ?_
    exact e131_23 d 1100 _ _ _ _ _ _ _ h
  · rw [if_neg hb] at h
    refine rn_steps 1 9 [.ref l0, .int l1, .int l2, .retAddr 0, .retAddr 0] [.int 0] rfl ?_
    cases h
    exact rn_ret rfl rfl rfl
/-- LastAsked.hopes(I)I -/
noncomputable def f72 (l0 : Nat) (l1 : Int32) (σ : xM) : Option (Int32 × xM) :=
  (cO σ l0 7).bind fun u8 =>
  (f119 l0 l1 σ).bind fun y1 =>
  (cO y1.2 l0 7).bind fun u7 =>
  (f114 l0 y1.1 y1.2).bind fun y2 =>
  if y2.1 = 0 then
  (cO y2.2 l0 7).bind fun u6 =>
  (f130 l0 l1 y2.2).bind fun y3 =>
  (cO y3.2 l0 7).bind fun u5 =>
  (f131 l0 l1 y3.1 y3.2).bind fun y4 =>
  some (y4.1, y4.2)
  else
  some ((-1), y2.2)
set_option maxRecDepth 20000 in
set_option maxHeartbeats 1000000 in
theorem e72 (d : Nat) {l0 : Nat} {l1 : Int32} {σ : xM} {y : Int32 × xM} (h : f72 l0 l1 σ = some y) : Rn (d + 5) 72 0 [.ref l0, .int l1, .retAddr 0] [] σ (some (.int y.1), y.2) := by
  unfold f72 at h
  refine rn_steps 3 3 [.ref l0, .int l1, .retAddr 0] [.int l1, .ref l0, .ref l0] rfl ?_
  obtain ⟨u8, hu8, h⟩ := Option.bind_eq_some_iff.mp h
  obtain ⟨y1, hy1, h⟩ := Option.bind_eq_some_iff.mp h
  refine rn_callV [.int l1] rfl rfl ⟨rfl, rfl⟩ hu8 rfl rfl (e119 (d + 2) hy1) ?_
  refine rn_steps 0 6 [.ref l0, .int l1, .retAddr 0] [.int y1.1, .ref l0] rfl ?_
  obtain ⟨u7, hu7, h⟩ := Option.bind_eq_some_iff.mp h
  obtain ⟨y2, hy2, h⟩ := Option.bind_eq_some_iff.mp h
  refine rn_callV [.int y1.1] rfl rfl ⟨rfl, rfl⟩ hu7 rfl rfl (e114 (d + 4) hy2) ?_
  refine rn_steps 0 9 [.ref l0, .int l1, .retAddr 0] [.int y2.1] rfl ?_
  refine rn_br (c := y2.1 = 0) rfl rfl decide_eq_true_iff (fun hb => ?_) (fun hb => ?_)
  · rw [if_pos hb] at h
    refine rn_steps 2 16 [.ref l0, .int l1, .retAddr 0] [.int l1, .ref l0] rfl ?_
    obtain ⟨u6, hu6, h⟩ := Option.bind_eq_some_iff.mp h
    obtain ⟨y3, hy3, h⟩ := Option.bind_eq_some_iff.mp h
    refine rn_callV [.int l1] rfl rfl ⟨rfl, rfl⟩ hu6 rfl rfl (e130 d hy3) ?_
    refine rn_steps 4 23 [.ref l0, .int l1, .int y3.1] [.int y3.1, .int l1, .ref l0] rfl ?_
    obtain ⟨u5, hu5, h⟩ := Option.bind_eq_some_iff.mp h
    obtain ⟨y4, hy4, h⟩ := Option.bind_eq_some_iff.mp h
    refine rn_callV [.int l1, .int y3.1] rfl rfl ⟨rfl, rfl⟩ hu5 rfl rfl (e131 (d + 2) hy4) ?_
    refine rn_steps 0 26 [.ref l0, .int l1, .int y3.1] [.int y4.1] rfl ?_
    cases h
    exact rn_ret rfl rfl rfl
  · rw [if_neg hb] at h
    refine rn_steps 1 13 [.ref l0, .int l1, .retAddr 0] [.int (-1)] rfl ?_
    cases h
    exact rn_ret rfl rfl rfl
noncomputable def f115_15 (s0 : Int32) (σ : xM) : Option (Int32 × xM) :=
  rZ s0 σ
set_option maxRecDepth 20000 in
set_option maxHeartbeats 1000000 in
theorem e115_15 (d : Nat) (s0 : Int32) (x0 : Value) (σ : xM) (y : Int32 × xM) (h : f115_15 s0 σ = some y) : Rn (d + 0) 115 15 [x0] [.int s0] σ (some (.int y.1), y.2) := by
  unfold f115_15 at h
  exact rn_retZ rfl rfl h
/-- LastAsked.isCity()Z -/
noncomputable def f115 (l0 : Nat) (σ : xM) : Option (Int32 × xM) :=
  (gR σ l0 7 1).bind fun r1 =>
  (gI σ r1 0 2).bind fun v2 =>
  if v2 ≤ 0 then
  f115_15 0 σ
  else
  f115_15 1 σ
set_option maxRecDepth 20000 in
set_option maxHeartbeats 1000000 in
theorem e115 (d : Nat) {l0 : Nat} {σ : xM} {y : Int32 × xM} (h : f115 l0 σ = some y) : Rn (d + 0) 115 0 [.ref l0] [] σ (some (.int y.1), y.2) := by
  unfold f115 at h
  refine rn_steps 1 1 [.ref l0] [.ref l0] rfl ?_
  obtain ⟨r1, hr1, h⟩ := Option.bind_eq_some_iff.mp h
  refine rn_gR (c := 7) (f := 1) rfl rfl ⟨⟨rfl, rfl⟩, rfl⟩ hr1 ?_
  refine rn_steps 0 4 [.ref l0] [.ref r1] rfl ?_
  obtain ⟨v2, hv2, h⟩ := Option.bind_eq_some_iff.mp h
  refine rn_gI (c := 0) (f := 2) rfl rfl ⟨⟨rfl, rfl⟩, Or.inl rfl⟩ hv2 ?_
  refine rn_steps 0 7 [.ref l0] [.int v2] rfl ?_
  refine rn_br (c := v2 ≤ 0) rfl rfl decide_eq_true_iff (fun hb => ?_) (fun hb => ?_)
  · rw [if_pos hb] at h
    refine rn_steps 1 15 [.ref l0] [.int 0] rfl ?_
    exact e115_15 d _ _ _ _ h
  · rw [if_neg hb] at h
    refine rn_steps 2 15 [.ref l0] [.int 1] rfl ?_
    exact e115_15 d _ _ _ _ h
noncomputable def f73_13 (l0 : Nat) (s0 : Int32) (s1 : Nat) (σ : xM) : Option (Int32 × xM) :=
  (cO σ s1 7).bind fun u4 =>
  (f114 s1 s0 σ).bind fun y1 =>
  if y1.1 = 0 then
  (gR y1.2 l0 7 2).bind fun r2 =>
  (gI y1.2 r2 4 3).bind fun v3 =>
  some (v3, y1.2)
  else
  some ((-1), y1.2)
set_option maxRecDepth 20000 in
set_option maxHeartbeats 1000000 in
theorem e73_13 (d : Nat) (l0 : Nat) (s0 : Int32) (s1 : Nat) (σ : xM) (y : Int32 × xM) (h : f73_13 l0 s0 s1 σ = some y) : Rn (d + 1) 73 13 [.ref l0] [.int s0, .ref s1] σ (some (.int y.1), y.2) := by
  unfold f73_13 at h
  obtain ⟨u4, hu4, h⟩ := Option.bind_eq_some_iff.mp h
  obtain ⟨y1, hy1, h⟩ := Option.bind_eq_some_iff.mp h
  refine rn_callV [.int s0] rfl rfl ⟨rfl, rfl⟩ hu4 rfl rfl (e114 d hy1) ?_
  refine rn_steps 0 16 [.ref l0] [.int y1.1] rfl ?_
  refine rn_br (c := y1.1 = 0) rfl rfl decide_eq_true_iff (fun hb => ?_) (fun hb => ?_)
  · rw [if_pos hb] at h
    refine rn_steps 1 22 [.ref l0] [.ref l0] rfl ?_
    obtain ⟨r2, hr2, h⟩ := Option.bind_eq_some_iff.mp h
    refine rn_gR (c := 7) (f := 2) rfl rfl ⟨⟨rfl, rfl⟩, rfl⟩ hr2 ?_
    refine rn_steps 0 25 [.ref l0] [.ref r2] rfl ?_
    obtain ⟨v3, hv3, h⟩ := Option.bind_eq_some_iff.mp h
    refine rn_gI (c := 4) (f := 3) rfl rfl ⟨⟨rfl, rfl⟩, Or.inl rfl⟩ hv3 ?_
    refine rn_steps 0 28 [.ref l0] [.int v3] rfl ?_
    cases h
    exact rn_ret rfl rfl rfl
  · rw [if_neg hb] at h
    refine rn_steps 1 20 [.ref l0] [.int (-1)] rfl ?_
    cases h
    exact rn_ret rfl rfl rfl
/-- LastAsked.cat()I -/
noncomputable def f73 (l0 : Nat) (σ : xM) : Option (Int32 × xM) :=
  (cO σ l0 7).bind fun u2 =>
  (f115 l0 σ).bind fun y1 =>
  if y1.1 = 0 then
  f73_13 l0 1 l0 y1.2
  else
  f73_13 l0 0 l0 y1.2
set_option maxRecDepth 20000 in
set_option maxHeartbeats 1000000 in
theorem e73 (d : Nat) {l0 : Nat} {σ : xM} {y : Int32 × xM} (h : f73 l0 σ = some y) : Rn (d + 1) 73 0 [.ref l0] [] σ (some (.int y.1), y.2) := by
  unfold f73 at h
  refine rn_steps 2 2 [.ref l0] [.ref l0, .ref l0] rfl ?_
  obtain ⟨u2, hu2, h⟩ := Option.bind_eq_some_iff.mp h
  obtain ⟨y1, hy1, h⟩ := Option.bind_eq_some_iff.mp h
  refine rn_callV [] rfl rfl ⟨rfl, rfl⟩ hu2 rfl rfl (e115 d hy1) ?_
  refine rn_steps 0 5 [.ref l0] [.int y1.1, .ref l0] rfl ?_
  refine rn_br (c := y1.1 = 0) rfl rfl decide_eq_true_iff (fun hb => ?_) (fun hb => ?_)
  · rw [if_pos hb] at h
    refine rn_steps 1 13 [.ref l0] [.int 1, .ref l0] rfl ?_
    exact e73_13 d _ _ _ _ _ h
  · rw [if_neg hb] at h
    refine rn_steps 2 13 [.ref l0] [.int 0, .ref l0] rfl ?_
    exact e73_13 d _ _ _ _ _ h
noncomputable def f128_58 (l2 : Int32) (σ : xM) : Option (Int32 × xM) :=
  some (l2, σ)
set_option maxRecDepth 20000 in
set_option maxHeartbeats 1000000 in
theorem e128_58 (d : Nat) (l2 : Int32) (x0 x1 x3 x4 : Value) (σ : xM) (y : Int32 × xM) (h : f128_58 l2 σ = some y) : Rn (d + 1) 128 58 [x0, x1, .int l2, x3, x4] [] σ (some (.int y.1), y.2) := by
  unfold f128_58 at h
  refine rn_steps 1 59 [x0, x1, .int l2, x3, x4] [.int l2] rfl ?_
  cases h
  exact rn_ret rfl rfl rfl
noncomputable def f128_52 (K8 : Nat → Int32 → Int32 → Int32 → Int32 → xM → Option (Int32 × xM)) (l0 : Nat) (l1 : Int32) (l2 : Int32) (l3 : Int32) (l4 : Int32) (σ : xM) : Option (Int32 × xM) :=
  K8 l0 l1 l2 l3 (l4 + 1) σ
set_option maxRecDepth 20000 in
set_option maxHeartbeats 1000000 in
theorem e128_52 (d : Nat) (K8 : Nat → Int32 → Int32 → Int32 → Int32 → xM → Option (Int32 × xM)) (hK8 : ∀ (l0 : Nat) (l1 : Int32) (l2 : Int32) (l3 : Int32) (l4 : Int32) (σ : xM) (y : Int32 × xM), K8 l0 l1 l2 l3 l4 σ = some y → Rn (d + 1) 128 8 [.ref l0, .int l1, .int l2, .int l3, .int l4] [] σ (some (.int y.1), y.2)) (l0 : Nat) (l1 : Int32) (l2 : Int32) (l3 : Int32) (l4 : Int32) (σ : xM) (y : Int32 × xM) (h : f128_52 K8 l0 l1 l2 l3 l4 σ = some y) : Rn (d + 1) 128 52 [.ref l0, .int l1, .int l2, .int l3, .int l4] [] σ (some (.int y.1), y.2) := by
  unfold f128_52 at h
  refine rn_steps 2 8 [.ref l0, .int l1, .int l2, .int l3, .int (l4 + 1)] [] rfl ?_
  exact hK8 _ _ _ _ _ _ _ h
noncomputable def f128_8 : Nat → Nat → Int32 → Int32 → Int32 → Int32 → xM → Option (Int32 × xM)
  | 0, _, _, _, _, _, _ => none
  | n + 1, l0, l1, l2, l3, l4, σ =>
    if 6 ≤ l4 then
    f128_58 l2 σ
    else
    (f124 l1 l4 σ).bind fun y1 =>
    if y1.1 = 0 then
    f128_52 (f128_8 n) l0 l1 l2 l3 l4 y1.2
    else
    (gR y1.2 l0 7 2).bind fun r2 =>
    (gR y1.2 r2 4 5).bind fun r3 =>
    (aI y1.2 r3 l4).bind fun v4 =>
    if v4 ≤ l3 then
    f128_52 (f128_8 n) l0 l1 l2 l3 l4 y1.2
    else
    (gR y1.2 l0 7 2).bind fun r5 =>
    (gR y1.2 r5 4 5).bind fun r6 =>
    (aI y1.2 r6 l4).bind fun v7 =>
    f128_52 (f128_8 n) l0 l1 l4 v7 l4 y1.2
set_option maxRecDepth 20000 in
set_option maxHeartbeats 1000000 in
theorem e128_8 (d : Nat) : ∀ (n : Nat) (l0 : Nat) (l1 : Int32) (l2 : Int32) (l3 : Int32) (l4 : Int32) (σ : xM) (y : Int32 × xM), f128_8 n l0 l1 l2 l3 l4 σ = some y → Rn (d + 1) 128 8 [.ref l0, .int l1, .int l2, .int l3, .int l4] [] σ (some (.int y.1), y.2) := by
  intro n
  induction n with
  | zero => intro l0 l1 l2 l3 l4 σ y h; cases h
  | succ n ih =>
    intro l0 l1 l2 l3 l4 σ y h
    unfold f128_8 at h
    refine rn_steps 2 12 [.ref l0, .int l1, .int l2, .int l3, .int l4] [.int 6, .int l4] rfl ?_
    refine rn_br (c := 6 ≤ l4) rfl rfl decide_eq_true_iff (fun hb => ?_) (fun hb => ?_)
    · rw [if_pos hb] at h
      refine rn_steps 0 58 [.ref l0, .int l1, .int l2, .int l3, .int l4] [] rfl ?_
      exact e128_58 d _ _ _ _ _ _ _ h
    · rw [if_neg hb] at h
      refine rn_steps 2 18 [.ref l0, .int l1, .int l2, .int l3, .int l4] [.int l4, .int l1] rfl ?_
      obtain ⟨y1, hy1, h⟩ := Option.bind_eq_some_iff.mp h
      refine rn_callS [.int l1, .int l4] rfl rfl rfl ⟨rfl, rfl, rfl⟩ rfl rfl (e124 d hy1) ?_
      refine rn_steps 0 21 [.ref l0, .int l1, .int l2, .int l3, .int l4] [.int y1.1] rfl ?_
      refine rn_br (c := y1.1 = 0) rfl rfl decide_eq_true_iff (fun hb => ?_) (fun hb => ?_)
      · rw [if_pos hb] at h
        refine rn_steps 0 52 [.ref l0, .int l1, .int l2, .int l3, .int l4] [] rfl ?_
        exact e128_52 d _ ih _ _ _ _ _ _ _ h
      · rw [if_neg hb] at h
        refine rn_steps 1 25 [.ref l0, .int l1, .int l2, .int l3, .int l4] [.ref l0] rfl ?_
        obtain ⟨r2, hr2, h⟩ := Option.bind_eq_some_iff.mp h
        refine rn_gR (c := 7) (f := 2) rfl rfl ⟨⟨rfl, rfl⟩, rfl⟩ hr2 ?_
        refine rn_steps 0 28 [.ref l0, .int l1, .int l2, .int l3, .int l4] [.ref r2] rfl ?_
        obtain ⟨r3, hr3, h⟩ := Option.bind_eq_some_iff.mp h
        refine rn_gR (c := 4) (f := 5) rfl rfl ⟨⟨rfl, rfl⟩, rfl⟩ hr3 ?_
        refine rn_steps 1 33 [.ref l0, .int l1, .int l2, .int l3, .int l4] [.int l4, .ref r3] rfl ?_
        obtain ⟨v4, hv4, h⟩ := Option.bind_eq_some_iff.mp h
        refine rn_aI rfl hv4 ?_
        refine rn_steps 1 35 [.ref l0, .int l1, .int l2, .int l3, .int l4] [.int l3, .int v4] rfl ?_
        refine rn_br (c := v4 ≤ l3) rfl rfl decide_eq_true_iff (fun hb => ?_) (fun hb => ?_)
        · rw [if_pos hb] at h
          refine rn_steps 0 52 [.ref l0, .int l1, .int l2, .int l3, .int l4] [] rfl ?_
          exact e128_52 d _ ih _ _ _ _ _ _ _ h
        · rw [if_neg hb] at h
          refine rn_steps 3 42 [.ref l0, .int l1, .int l4, .int l3, .int l4] [.ref l0] rfl ?_
          obtain ⟨r5, hr5, h⟩ := Option.bind_eq_some_iff.mp h
          refine rn_gR (c := 7) (f := 2) rfl rfl ⟨⟨rfl, rfl⟩, rfl⟩ hr5 ?_
          refine rn_steps 0 45 [.ref l0, .int l1, .int l4, .int l3, .int l4] [.ref r5] rfl ?_
          obtain ⟨r6, hr6, h⟩ := Option.bind_eq_some_iff.mp h
          refine rn_gR (c := 4) (f := 5) rfl rfl ⟨⟨rfl, rfl⟩, rfl⟩ hr6 ?_
          refine rn_steps 1 50 [.ref l0, .int l1, .int l4, .int l3, .int l4] [.int l4, .ref r6] rfl ?_
          obtain ⟨v7, hv7, h⟩ := Option.bind_eq_some_iff.mp h
          refine rn_aI rfl hv7 ?_
          refine rn_steps 1 52 [.ref l0, .int l1, .int l4, .int v7, .int l4] [] rfl ?_
          exact e128_52 d _ ih _ _ _ _ _ _ _ h
/-- LastAsked.richestOf(I)I -/
noncomputable def f128 (l0 : Nat) (l1 : Int32) (σ : xM) : Option (Int32 × xM) :=
  f128_8 1100 l0 l1 (-2) (-1) 0 σ
set_option maxRecDepth 20000 in
set_option maxHeartbeats 1000000 in
theorem e128 (d : Nat) {l0 : Nat} {l1 : Int32} {σ : xM} {y : Int32 × xM} (h : f128 l0 l1 σ = some y) : Rn (d + 1) 128 0 [.ref l0, .int l1, .retAddr 0, .retAddr 0, .retAddr 0] [] σ (some (.int y.1), y.2) := by
  unfold f128 at h
  refine rn_steps 6 8 [.ref l0, .int l1, .int (-2), .int (-1), .int 0] [] rfl ?_
  exact e128_8 d 1100 _ _ _ _ _ _ _ h
noncomputable def f74_13 (l0 : Nat) (s0 : Int32) (s1 : Nat) (σ : xM) : Option (Int32 × xM) :=
  (cO σ s1 7).bind fun u6 =>
  (f114 s1 s0 σ).bind fun y1 =>
  if y1.1 = 0 then
  (gR y1.2 l0 7 2).bind fun r2 =>
  (gI y1.2 r2 4 4).bind fun v3 =>
  (cO y1.2 l0 7).bind fun u5 =>
  (f128 l0 v3 y1.2).bind fun y4 =>
  some (y4.1, y4.2)
  else
  some ((-1), y1.2)
set_option maxRecDepth 20000 in
set_option maxHeartbeats 1000000 in
theorem e74_13 (d : Nat) (l0 : Nat) (s0 : Int32) (s1 : Nat) (σ : xM) (y : Int32 × xM) (h : f74_13 l0 s0 s1 σ = some y) : Rn (d + 2) 74 13 [.ref l0] [.int s0, .ref s1] σ (some (.int y.1), y.2) := by
  unfold f74_13 at h
  obtain ⟨u6, hu6, h⟩ := Option.bind_eq_some_iff.mp h
  obtain ⟨y1, hy1, h⟩ := Option.bind_eq_some_iff.mp h
  refine rn_callV [.int s0] rfl rfl ⟨rfl, rfl⟩ hu6 rfl rfl (e114 (d + 1) hy1) ?_
  refine rn_steps 0 16 [.ref l0] [.int y1.1] rfl ?_
  refine rn_br (c := y1.1 = 0) rfl rfl decide_eq_true_iff (fun hb => ?_) (fun hb => ?_)
  · rw [if_pos hb] at h
    refine rn_steps 2 23 [.ref l0] [.ref l0, .ref l0] rfl ?_
    obtain ⟨r2, hr2, h⟩ := Option.bind_eq_some_iff.mp h
    refine rn_gR (c := 7) (f := 2) rfl rfl ⟨⟨rfl, rfl⟩, rfl⟩ hr2 ?_
    refine rn_steps 0 26 [.ref l0] [.ref r2, .ref l0] rfl ?_
    obtain ⟨v3, hv3, h⟩ := Option.bind_eq_some_iff.mp h
    refine rn_gI (c := 4) (f := 4) rfl rfl ⟨⟨rfl, rfl⟩, Or.inl rfl⟩ hv3 ?_
    refine rn_steps 0 29 [.ref l0] [.int v3, .ref l0] rfl ?_
    obtain ⟨u5, hu5, h⟩ := Option.bind_eq_some_iff.mp h
    obtain ⟨y4, hy4, h⟩ := Option.bind_eq_some_iff.mp h
    refine rn_callV [.int v3] rfl rfl ⟨rfl, rfl⟩ hu5 rfl rfl (e128 d hy4) ?_
    refine rn_steps 0 32 [.ref l0] [.int y4.1] rfl ?_
    cases h
    exact rn_ret rfl rfl rfl
  · rw [if_neg hb] at h
    refine rn_steps 1 20 [.ref l0] [.int (-1)] rfl ?_
    cases h
    exact rn_ret rfl rfl rfl
/-- LastAsked.richest()I -/
noncomputable def f74 (l0 : Nat) (σ : xM) : Option (Int32 × xM) :=
  (cO σ l0 7).bind fun u2 =>
  (f115 l0 σ).bind fun y1 =>
  if y1.1 = 0 then
  f74_13 l0 1 l0 y1.2
  else
  f74_13 l0 0 l0 y1.2
set_option maxRecDepth 20000 in
set_option maxHeartbeats 1000000 in
theorem e74 (d : Nat) {l0 : Nat} {σ : xM} {y : Int32 × xM} (h : f74 l0 σ = some y) : Rn (d + 2) 74 0 [.ref l0] [] σ (some (.int y.1), y.2) := by
  unfold f74 at h
  refine rn_steps 2 2 [.ref l0] [.ref l0, .ref l0] rfl ?_
  obtain ⟨u2, hu2, h⟩ := Option.bind_eq_some_iff.mp h
  obtain ⟨y1, hy1, h⟩ := Option.bind_eq_some_iff.mp h
  refine rn_callV [] rfl rfl ⟨rfl, rfl⟩ hu2 rfl rfl (e115 (d + 1) hy1) ?_
  refine rn_steps 0 5 [.ref l0] [.int y1.1, .ref l0] rfl ?_
  refine rn_br (c := y1.1 = 0) rfl rfl decide_eq_true_iff (fun hb => ?_) (fun hb => ?_)
  · rw [if_pos hb] at h
    refine rn_steps 1 13 [.ref l0] [.int 1, .ref l0] rfl ?_
    exact e74_13 d _ _ _ _ _ h
  · rw [if_neg hb] at h
    refine rn_steps 2 13 [.ref l0] [.int 0, .ref l0] rfl ?_
    exact e74_13 d _ _ _ _ _ h
noncomputable def f118_19 (s0 : Int32) (σ : xM) : Option (Int32 × xM) :=
  rZ s0 σ
set_option maxRecDepth 20000 in
set_option maxHeartbeats 1000000 in
theorem e118_19 (d : Nat) (s0 : Int32) (x0 x1 : Value) (σ : xM) (y : Int32 × xM) (h : f118_19 s0 σ = some y) : Rn (d + 0) 118 19 [x0, x1] [.int s0] σ (some (.int y.1), y.2) := by
  unfold f118_19 at h
  exact rn_retZ rfl rfl h
/-- LastAsked.isLivingSet(I)Z -/
noncomputable def f118 (l0 : Nat) (l1 : Int32) (σ : xM) : Option (Int32 × xM) :=
  (gR σ l0 7 2).bind fun r1 =>
  (gI σ r1 4 4).bind fun v2 =>
  if (l1 &&& (v2 ^^^ (-1))) = 0 then
  f118_19 1 σ
  else
  f118_19 0 σ
set_option maxRecDepth 20000 in
set_option maxHeartbeats 1000000 in
theorem e118 (d : Nat) {l0 : Nat} {l1 : Int32} {σ : xM} {y : Int32 × xM} (h : f118 l0 l1 σ = some y) : Rn (d + 0) 118 0 [.ref l0, .int l1] [] σ (some (.int y.1), y.2) := by
  unfold f118 at h
  refine rn_steps 2 2 [.ref l0, .int l1] [.ref l0, .int l1] rfl ?_
  obtain ⟨r1, hr1, h⟩ := Option.bind_eq_some_iff.mp h
  refine rn_gR (c := 7) (f := 2) rfl rfl ⟨⟨rfl, rfl⟩, rfl⟩ hr1 ?_
  refine rn_steps 0 5 [.ref l0, .int l1] [.ref r1, .int l1] rfl ?_
  obtain ⟨v2, hv2, h⟩ := Option.bind_eq_some_iff.mp h
  refine rn_gI (c := 4) (f := 4) rfl rfl ⟨⟨rfl, rfl⟩, Or.inl rfl⟩ hv2 ?_
  refine rn_steps 3 11 [.ref l0, .int l1] [.int (l1 &&& (v2 ^^^ (-1)))] rfl ?_
  refine rn_br (c := ¬ (l1 &&& (v2 ^^^ (-1))) = 0) rfl rfl decide_eq_true_iff (fun hb => ?_) (fun hb => ?_)
  · rw [if_neg hb] at h
    refine rn_steps 1 19 [.ref l0, .int l1] [.int 0] rfl ?_
    exact e118_19 d _ _ _ _ _ h
  · rw [if_pos (Decidable.not_not.mp hb)] at h
    refine rn_steps 2 19 [.ref l0, .int l1] [.int 1] rfl ?_
    exact e118_19 d _ _ _ _ _ h
noncomputable def f75_34 (l0 : Nat) (l1 : Int32) (l2 : Int32) (s0 : Int32) (s1 : Nat) (σ : xM) : Option (Int32 × xM) :=
  (cO σ s1 7).bind fun u6 =>
  (f114 s1 s0 σ).bind fun y1 =>
  if y1.1 = 0 then
  (cO y1.2 l0 7).bind fun u5 =>
  (f129 l0 y1.2).bind fun y2 =>
  (cO y2.2 y2.1 6).bind fun u4 =>
  (f59 y2.1 l1 l2 y2.2).bind fun y3 =>
  some (y3.1, y3.2)
  else
  some ((-1), y1.2)
set_option maxRecDepth 20000 in
set_option maxHeartbeats 1000000 in
theorem e75_34 (d : Nat) (l0 : Nat) (l1 : Int32) (l2 : Int32) (s0 : Int32) (s1 : Nat) (σ : xM) (y : Int32 × xM) (h : f75_34 l0 l1 l2 s0 s1 σ = some y) : Rn (d + 4) 75 34 [.ref l0, .int l1, .int l2] [.int s0, .ref s1] σ (some (.int y.1), y.2) := by
  unfold f75_34 at h
  obtain ⟨u6, hu6, h⟩ := Option.bind_eq_some_iff.mp h
  obtain ⟨y1, hy1, h⟩ := Option.bind_eq_some_iff.mp h
  refine rn_callV [.int s0] rfl rfl ⟨rfl, rfl⟩ hu6 rfl rfl (e114 (d + 3) hy1) ?_
  refine rn_steps 0 37 [.ref l0, .int l1, .int l2] [.int y1.1] rfl ?_
  refine rn_br (c := y1.1 = 0) rfl rfl decide_eq_true_iff (fun hb => ?_) (fun hb => ?_)
  · rw [if_pos hb] at h
    refine rn_steps 1 43 [.ref l0, .int l1, .int l2] [.ref l0] rfl ?_
    obtain ⟨u5, hu5, h⟩ := Option.bind_eq_some_iff.mp h
    obtain ⟨y2, hy2, h⟩ := Option.bind_eq_some_iff.mp h
    refine rn_callV [] rfl rfl ⟨rfl, rfl⟩ hu5 rfl rfl (e129 d hy2) ?_
    refine rn_steps 2 48 [.ref l0, .int l1, .int l2] [.int l2, .int l1, .ref y2.1] rfl ?_
    obtain ⟨u4, hu4, h⟩ := Option.bind_eq_some_iff.mp h
    obtain ⟨y3, hy3, h⟩ := Option.bind_eq_some_iff.mp h
    refine rn_callV [.int l1, .int l2] rfl rfl ⟨rfl, rfl⟩ hu4 rfl rfl (e59 (d + 2) hy3) ?_
    refine rn_steps 0 51 [.ref l0, .int l1, .int l2] [.int y3.1] rfl ?_
    cases h
    exact rn_ret rfl rfl rfl
  · rw [if_neg hb] at h
    refine rn_steps 1 41 [.ref l0, .int l1, .int l2] [.int (-1)] rfl ?_
    cases h
    exact rn_ret rfl rfl rfl
noncomputable def f75_33 (l0 : Nat) (l1 : Int32) (l2 : Int32) (s0 : Nat) (σ : xM) : Option (Int32 × xM) :=
  f75_34 l0 l1 l2 2 s0 σ
set_option maxRecDepth 20000 in
set_option maxHeartbeats 1000000 in
theorem e75_33 (d : Nat) (l0 : Nat) (l1 : Int32) (l2 : Int32) (s0 : Nat) (σ : xM) (y : Int32 × xM) (h : f75_33 l0 l1 l2 s0 σ = some y) : Rn (d + 4) 75 33 [.ref l0, .int l1, .int l2] [.ref s0] σ (some (.int y.1), y.2) := by
  unfold f75_33 at h
  refine rn_steps 1 34 [.ref l0, .int l1, .int l2] [.int 2, .ref s0] rfl ?_
  exact e75_34 d _ _ _ _ _ _ _ h
/-- LastAsked.goesTo(II)I -/
noncomputable def f75 (l0 : Nat) (l1 : Int32) (l2 : Int32) (σ : xM) : Option (Int32 × xM) :=
  (cO σ l0 7).bind fun u5 =>
  (f116 l0 l1 σ).bind fun y1 =>
  if y1.1 = 0 then
  f75_34 l0 l1 l2 1 l0 y1.2
  else
  (cO y1.2 l0 7).bind fun u4 =>
  (f118 l0 l2 y1.2).bind fun y2 =>
  if y2.1 = 0 then
  f75_33 l0 l1 l2 l0 y2.2
  else
  (f124 l2 l1 y2.2).bind fun y3 =>
  if y3.1 = 0 then
  f75_33 l0 l1 l2 l0 y3.2
  else
  f75_34 l0 l1 l2 0 l0 y3.2
set_option maxRecDepth 20000 in
set_option maxHeartbeats 1000000 in
theorem e75 (d : Nat) {l0 : Nat} {l1 : Int32} {l2 : Int32} {σ : xM} {y : Int32 × xM} (h : f75 l0 l1 l2 σ = some y) : Rn (d + 4) 75 0 [.ref l0, .int l1, .int l2] [] σ (some (.int y.1), y.2) := by
  unfold f75 at h
  refine rn_steps 3 3 [.ref l0, .int l1, .int l2] [.int l1, .ref l0, .ref l0] rfl ?_
  obtain ⟨u5, hu5, h⟩ := Option.bind_eq_some_iff.mp h
  obtain ⟨y1, hy1, h⟩ := Option.bind_eq_some_iff.mp h
  refine rn_callV [.int l1] rfl rfl ⟨rfl, rfl⟩ hu5 rfl rfl (e116 (d + 3) hy1) ?_
  refine rn_steps 0 6 [.ref l0, .int l1, .int l2] [.int y1.1, .ref l0] rfl ?_
  refine rn_br (c := ¬ y1.1 = 0) rfl rfl decide_eq_true_iff (fun hb => ?_) (fun hb => ?_)
  · rw [if_neg hb] at h
    refine rn_steps 2 15 [.ref l0, .int l1, .int l2] [.int l2, .ref l0, .ref l0] rfl ?_
    obtain ⟨u4, hu4, h⟩ := Option.bind_eq_some_iff.mp h
    obtain ⟨y2, hy2, h⟩ := Option.bind_eq_some_iff.mp h
    refine rn_callV [.int l2] rfl rfl ⟨rfl, rfl⟩ hu4 rfl rfl (e118 (d + 3) hy2) ?_
    refine rn_steps 0 18 [.ref l0, .int l1, .int l2] [.int y2.1, .ref l0] rfl ?_
    refine rn_br (c := y2.1 = 0) rfl rfl decide_eq_true_iff (fun hb => ?_) (fun hb => ?_)
    · rw [if_pos hb] at h
      refine rn_steps 0 33 [.ref l0, .int l1, .int l2] [.ref l0] rfl ?_
      exact e75_33 d _ _ _ _ _ _ h
    · rw [if_neg hb] at h
      refine rn_steps 2 23 [.ref l0, .int l1, .int l2] [.int l1, .int l2, .ref l0] rfl ?_
      obtain ⟨y3, hy3, h⟩ := Option.bind_eq_some_iff.mp h
      refine rn_callS [.int l2, .int l1] rfl rfl rfl ⟨rfl, rfl, rfl⟩ rfl rfl (e124 (d + 3) hy3) ?_
      refine rn_steps 0 26 [.ref l0, .int l1, .int l2] [.int y3.1, .ref l0] rfl ?_
      refine rn_br (c := y3.1 = 0) rfl rfl decide_eq_true_iff (fun hb => ?_) (fun hb => ?_)
      · rw [if_pos hb] at h
        refine rn_steps 0 33 [.ref l0, .int l1, .int l2] [.ref l0] rfl ?_
        exact e75_33 d _ _ _ _ _ _ h
      · rw [if_neg hb] at h
        refine rn_steps 2 34 [.ref l0, .int l1, .int l2] [.int 0, .ref l0] rfl ?_
        exact e75_34 d _ _ _ _ _ _ _ h
  · rw [if_pos (Decidable.not_not.mp hb)] at h
    refine rn_steps 2 34 [.ref l0, .int l1, .int l2] [.int 1, .ref l0] rfl ?_
    exact e75_34 d _ _ _ _ _ _ _ h
