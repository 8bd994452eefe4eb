noncomputable def f178_115 (l0 : Nat) (l1 : Int32) (σ : xM) : Option (Int32 × xM) :=
  (cO σ l0 9).bind fun u2 =>
  (f165 l0 σ).bind fun y1 =>
  some (l1, y1)
set_option maxRecDepth 20000 in
set_option maxHeartbeats 1000000 in
theorem e178_115 (d : Nat) (l0 : Nat) (l1 : Int32) (σ : xM) (y : Int32 × xM) (h : f178_115 l0 l1 σ = some y) : Rn (d + 9) 178 115 [.ref l0, .int l1] [] σ (some (.int y.1), y.2) := by
  unfold f178_115 at h
  refine rn_steps 1 116 [.ref l0, .int l1] [.ref l0] rfl ?_
  obtain ⟨u2, hu2, h⟩ := Option.bind_eq_some_iff.mp h
  obtain ⟨y1, hy1, h⟩ := Option.bind_eq_some_iff.mp h
  refine rn_callV [] rfl rfl ⟨rfl, rfl⟩ hu2 rfl rfl (e165 (d + 7) hy1) ?_
  refine rn_steps 1 120 [.ref l0, .int l1] [.int l1] rfl ?_
  cases h
  exact rn_ret rfl rfl rfl
noncomputable def f178_86 (l0 : Nat) (l1 : Int32) (σ : xM) : Option (Int32 × xM) :=
  (gI σ l0 9 9).bind fun v1 =>
  if v1 = 5 then
  f178_115 l0 l1 σ
  else
  (gR σ l0 9 4).bind fun r2 =>
  (gI σ l0 9 15).bind fun v3 =>
  (cO σ r2 8).bind fun u7 =>
  (f148 r2 l1 v3 σ).bind fun y4 =>
  if y4.1 = 0 then
  (cO y4.2 l0 9).bind fun u6 =>
  (f166 l0 7 y4.2).bind fun y5 =>
  f178_115 l0 l1 y5
  else
  f178_115 l0 l1 y4.2
set_option maxRecDepth 20000 in
set_option maxHeartbeats 1000000 in
theorem e178_86 (d : Nat) (l0 : Nat) (l1 : Int32) (σ : xM) (y : Int32 × xM) (h : f178_86 l0 l1 σ = some y) : Rn (d + 9) 178 86 [.ref l0, .int l1] [] σ (some (.int y.1), y.2) := by
  unfold f178_86 at h
  refine rn_steps 1 87 [.ref l0, .int l1] [.ref l0] rfl ?_
  obtain ⟨v1, hv1, h⟩ := Option.bind_eq_some_iff.mp h
  refine rn_gI (c := 9) (f := 9) rfl rfl ⟨⟨rfl, rfl⟩, Or.inl rfl⟩ hv1 ?_
  refine rn_steps 1 91 [.ref l0, .int l1] [.int 5, .int v1] rfl ?_
  refine rn_br (c := v1 = 5) rfl rfl decide_eq_true_iff (fun hb => ?_) (fun hb => ?_)
  · rw [if_pos hb] at h
    refine rn_steps 0 115 [.ref l0, .int l1] [] rfl ?_
    exact e178_115 d _ _ _ _ h
  · rw [if_neg hb] at h
    refine rn_steps 1 95 [.ref l0, .int l1] [.ref l0] rfl ?_
    obtain ⟨r2, hr2, h⟩ := Option.bind_eq_some_iff.mp h
    refine rn_gR (c := 9) (f := 4) rfl rfl ⟨⟨rfl, rfl⟩, rfl⟩ hr2 ?_
    refine rn_steps 2 100 [.ref l0, .int l1] [.ref l0, .int l1, .ref r2] rfl ?_
    obtain ⟨v3, hv3, h⟩ := Option.bind_eq_some_iff.mp h
    refine rn_gI (c := 9) (f := 15) rfl rfl ⟨⟨rfl, rfl⟩, Or.inl rfl⟩ hv3 ?_
    refine rn_steps 0 103 [.ref l0, .int l1] [.int v3, .int l1, .ref r2] rfl ?_
    obtain ⟨u7, hu7, h⟩ := Option.bind_eq_some_iff.mp h
    obtain ⟨y4, hy4, h⟩ := Option.bind_eq_some_iff.mp h
    refine rn_callV [.int l1, .int v3] rfl rfl ⟨rfl, rfl⟩ hu7 rfl rfl (e148 (d + 7) hy4) ?_
    refine rn_steps 0 106 [.ref l0, .int l1] [.int y4.1] rfl ?_
    refine rn_br (c := ¬ y4.1 = 0) rfl rfl decide_eq_true_iff (fun hb => ?_) (fun hb => ?_)
    · rw [if_neg hb] at h
      refine rn_steps 0 115 [.ref l0, .int l1] [] rfl ?_
      exact e178_115 d _ _ _ _ h
    · rw [if_pos (Decidable.not_not.mp hb)] at h
      refine rn_steps 2 112 [.ref l0, .int l1] [.int 7, .ref l0] rfl ?_
      obtain ⟨u6, hu6, h⟩ := Option.bind_eq_some_iff.mp h
      obtain ⟨y5, hy5, h⟩ := Option.bind_eq_some_iff.mp h
      refine rn_callV [.int 7] rfl rfl ⟨rfl, rfl⟩ hu6 rfl rfl (e166 (d + 8) hy5) ?_
      refine rn_steps 0 115 [.ref l0, .int l1] [] rfl ?_
      exact e178_115 d _ _ _ _ h
noncomputable def f178_81 (l0 : Nat) (l1 : Int32) (σ : xM) : Option (Int32 × xM) :=
  (cO σ l0 9).bind fun u2 =>
  (f166 l0 3 σ).bind fun y1 =>
  f178_86 l0 l1 y1
set_option maxRecDepth 20000 in
set_option maxHeartbeats 1000000 in
theorem e178_81 (d : Nat) (l0 : Nat) (l1 : Int32) (σ : xM) (y : Int32 × xM) (h : f178_81 l0 l1 σ = some y) : Rn (d + 9) 178 81 [.ref l0, .int l1] [] σ (some (.int y.1), y.2) := by
  unfold f178_81 at h
  refine rn_steps 2 83 [.ref l0, .int l1] [.int 3, .ref l0] rfl ?_
  obtain ⟨u2, hu2, h⟩ := Option.bind_eq_some_iff.mp h
  obtain ⟨y1, hy1, h⟩ := Option.bind_eq_some_iff.mp h
  refine rn_callV [.int 3] rfl rfl ⟨rfl, rfl⟩ hu2 rfl rfl (e166 (d + 8) hy1) ?_
  refine rn_steps 0 86 [.ref l0, .int l1] [] rfl ?_
  exact e178_86 d _ _ _ _ h
noncomputable def f178_32 (l0 : Nat) (l1 : Int32) (σ : xM) : Option (Int32 × xM) :=
  (cO σ l0 9).bind fun u11 =>
  (f165 l0 σ).bind fun y1 =>
  (cO y1 l0 9).bind fun u10 =>
  (f172 l0 y1).bind fun y2 =>
  (pI y2.2 l0 9 15 y2.1).bind fun σ3 =>
  (gI σ3 l0 9 9).bind fun v4 =>
  if v4 = 5 then
  f178_86 l0 l1 σ3
  else
  (gI σ3 l0 9 15).bind fun v5 =>
  if l1 = v5 then
  f178_81 l0 l1 σ3
  else
  (gR σ3 l0 9 4).bind fun r6 =>
  (gR σ3 r6 8 12).bind fun r7 =>
  (gI σ3 l0 9 15).bind fun v8 =>
  (aI σ3 r7 ((6 * l1) + v8)).bind fun v9 =>
  if v9 = (-1) then
  f178_86 l0 l1 σ3
  else
  f178_81 l0 l1 σ3
set_option maxRecDepth 20000 in
set_option maxHeartbeats 1000000 in
theorem e178_32 (d : Nat) (l0 : Nat) (l1 : Int32) (σ : xM) (y : Int32 × xM) (h : f178_32 l0 l1 σ = some y) : Rn (d + 9) 178 32 [.ref l0, .int l1] [] σ (some (.int y.1), y.2) := by
  unfold f178_32 at h
  refine rn_steps 1 33 [.ref l0, .int l1] [.ref l0] rfl ?_
  obtain ⟨u11, hu11, h⟩ := Option.bind_eq_some_iff.mp h
  obtain ⟨y1, hy1, h⟩ := Option.bind_eq_some_iff.mp h
  refine rn_callV [] rfl rfl ⟨rfl, rfl⟩ hu11 rfl rfl (e165 (d + 7) hy1) ?_
  refine rn_steps 2 38 [.ref l0, .int l1] [.ref l0, .ref l0] rfl ?_
  obtain ⟨u10, hu10, h⟩ := Option.bind_eq_some_iff.mp h
  obtain ⟨y2, hy2, h⟩ := Option.bind_eq_some_iff.mp h
  refine rn_callV [] rfl rfl ⟨rfl, rfl⟩ hu10 rfl rfl (e172 d hy2) ?_
  refine rn_steps 0 41 [.ref l0, .int l1] [.int y2.1, .ref l0] rfl ?_
  obtain ⟨σ3, hσ3, h⟩ := Option.bind_eq_some_iff.mp h
  refine rn_pI (c := 9) (f := 15) rfl rfl ⟨⟨rfl, rfl⟩, rfl⟩ hσ3 ?_
  refine rn_steps 1 45 [.ref l0, .int l1] [.ref l0] rfl ?_
  obtain ⟨v4, hv4, h⟩ := Option.bind_eq_some_iff.mp h
  refine rn_gI (c := 9) (f := 9) rfl rfl ⟨⟨rfl, rfl⟩, Or.inl rfl⟩ hv4 ?_
  refine rn_steps 1 49 [.ref l0, .int l1] [.int 5, .int v4] rfl ?_
  refine rn_br (c := v4 = 5) rfl rfl decide_eq_true_iff (fun hb => ?_) (fun hb => ?_)
  · rw [if_pos hb] at h
    refine rn_steps 0 86 [.ref l0, .int l1] [] rfl ?_
    exact e178_86 d _ _ _ _ h
  · rw [if_neg hb] at h
    refine rn_steps 2 54 [.ref l0, .int l1] [.ref l0, .int l1] rfl ?_
    obtain ⟨v5, hv5, h⟩ := Option.bind_eq_some_iff.mp h
    refine rn_gI (c := 9) (f := 15) rfl rfl ⟨⟨rfl, rfl⟩, Or.inl rfl⟩ hv5 ?_
    refine rn_steps 0 57 [.ref l0, .int l1] [.int v5, .int l1] rfl ?_
    refine rn_br (c := l1 = v5) rfl rfl decide_eq_true_iff (fun hb => ?_) (fun hb => ?_)
    · rw [if_pos hb] at h
      refine rn_steps 0 81 [.ref l0, .int l1] [] rfl ?_
      exact e178_81 d _ _ _ _ h
    · rw [if_neg hb] at h
      refine rn_steps 1 61 [.ref l0, .int l1] [.ref l0] rfl ?_
      obtain ⟨r6, hr6, h⟩ := Option.bind_eq_some_iff.mp h
      refine rn_gR (c := 9) (f := 4) rfl rfl ⟨⟨rfl, rfl⟩, rfl⟩ hr6 ?_
      refine rn_steps 0 64 [.ref l0, .int l1] [.ref r6] rfl ?_
      obtain ⟨r7, hr7, h⟩ := Option.bind_eq_some_iff.mp h
      refine rn_gR (c := 8) (f := 12) rfl rfl ⟨⟨rfl, rfl⟩, rfl⟩ hr7 ?_
      refine rn_steps 4 72 [.ref l0, .int l1] [.ref l0, .int (6 * l1), .ref r7] rfl ?_
      obtain ⟨v8, hv8, h⟩ := Option.bind_eq_some_iff.mp h
      refine rn_gI (c := 9) (f := 15) rfl rfl ⟨⟨rfl, rfl⟩, Or.inl rfl⟩ hv8 ?_
      refine rn_steps 1 76 [.ref l0, .int l1] [.int ((6 * l1) + v8), .ref r7] rfl ?_
      obtain ⟨v9, hv9, h⟩ := Option.bind_eq_some_iff.mp h
      refine rn_aI rfl hv9 ?_
      refine rn_steps 1 78 [.ref l0, .int l1] [.int (-1), .int v9] rfl ?_
      refine rn_br (c := v9 = (-1)) rfl rfl decide_eq_true_iff (fun hb => ?_) (fun hb => ?_)
      · rw [if_pos hb] at h
        refine rn_steps 0 86 [.ref l0, .int l1] [] rfl ?_
        exact e178_86 d _ _ _ _ h
      · rw [if_neg hb] at h
        refine rn_steps 0 81 [.ref l0, .int l1] [] rfl ?_
        exact e178_81 d _ _ _ _ h
/-- LastAskedModel.readPair()I -/
noncomputable def f178 (l0 : Nat) (σ : xM) : Option (Int32 × xM) :=
  (cO σ l0 9).bind fun u8 =>
  (f172 l0 σ).bind fun y1 =>
  (gI y1.2 l0 9 9).bind fun v2 =>
  if v2 = 5 then
  f178_32 l0 y1.1 y1.2
  else
  (gR y1.2 l0 9 4).bind fun r3 =>
  (gR y1.2 r3 8 7).bind fun r4 =>
  (aI y1.2 r4 y1.1).bind fun v5 =>
  if v5 = 3 then
  (cO y1.2 l0 9).bind fun u7 =>
  (f166 l0 7 y1.2).bind fun y6 =>
  f178_32 l0 y1.1 y6
  else
  f178_32 l0 y1.1 y1.2
set_option maxRecDepth 20000 in
set_option maxHeartbeats 1000000 in
theorem e178 (d : Nat) {l0 : Nat} {σ : xM} {y : Int32 × xM} (h : f178 l0 σ = some y) : Rn (d + 9) 178 0 [.ref l0, .retAddr 0] [] σ (some (.int y.1), y.2) := by
  unfold f178 at h
  refine rn_steps 1 1 [.ref l0, .retAddr 0] [.ref l0] rfl ?_
  obtain ⟨u8, hu8, h⟩ := Option.bind_eq_some_iff.mp h
  obtain ⟨y1, hy1, h⟩ := Option.bind_eq_some_iff.mp h
  refine rn_callV [] rfl rfl ⟨rfl, rfl⟩ hu8 rfl rfl (e172 d hy1) ?_
  refine rn_steps 2 6 [.ref l0, .int y1.1] [.ref l0] rfl ?_
  obtain ⟨v2, hv2, h⟩ := Option.bind_eq_some_iff.mp h
  refine rn_gI (c := 9) (f := 9) rfl rfl ⟨⟨rfl, rfl⟩, Or.inl rfl⟩ hv2 ?_
  refine rn_steps 1 10 [.ref l0, .int y1.1] [.int 5, .int v2] rfl ?_
  refine rn_br (c := v2 = 5) rfl rfl decide_eq_true_iff (fun hb => ?_) (fun hb => ?_)
  · rw [if_pos hb] at h
    refine rn_steps 0 32 [.ref l0, .int y1.1] [] rfl ?_
    exact e178_32 d _ _ _ _ h
  · rw [if_neg hb] at h
    refine rn_steps 1 14 [.ref l0, .int y1.1] [.ref l0] rfl ?_
    obtain ⟨r3, hr3, h⟩ := Option.bind_eq_some_iff.mp h
    refine rn_gR (c := 9) (f := 4) rfl rfl ⟨⟨rfl, rfl⟩, rfl⟩ hr3 ?_
    refine rn_steps 0 17 [.ref l0, .int y1.1] [.ref r3] rfl ?_
    obtain ⟨r4, hr4, h⟩ := Option.bind_eq_some_iff.mp h
    refine rn_gR (c := 8) (f := 7) rfl rfl ⟨⟨rfl, rfl⟩, rfl⟩ hr4 ?_
    refine rn_steps 1 21 [.ref l0, .int y1.1] [.int y1.1, .ref r4] rfl ?_
    obtain ⟨v5, hv5, h⟩ := Option.bind_eq_some_iff.mp h
    refine rn_aI rfl hv5 ?_
    refine rn_steps 1 23 [.ref l0, .int y1.1] [.int 3, .int v5] rfl ?_
    refine rn_br (c := ¬ v5 = 3) rfl rfl decide_eq_true_iff (fun hb => ?_) (fun hb => ?_)
    · rw [if_neg hb] at h
      refine rn_steps 0 32 [.ref l0, .int y1.1] [] rfl ?_
      exact e178_32 d _ _ _ _ h
    · rw [if_pos (Decidable.not_not.mp hb)] at h
      refine rn_steps 2 29 [.ref l0, .int y1.1] [.int 7, .ref l0] rfl ?_
      obtain ⟨u7, hu7, h⟩ := Option.bind_eq_some_iff.mp h
      obtain ⟨y6, hy6, h⟩ := Option.bind_eq_some_iff.mp h
      refine rn_callV [.int 7] rfl rfl ⟨rfl, rfl⟩ hu7 rfl rfl (e166 (d + 8) hy6) ?_
      refine rn_steps 0 32 [.ref l0, .int y1.1] [] rfl ?_
      exact e178_32 d _ _ _ _ h
/-- LastAskedModel.readAsked()V -/
noncomputable def f179 (l0 : Nat) (σ : xM) : Option xM :=
  (gR σ l0 9 4).bind fun r1 =>
  (gI σ r1 8 4).bind fun v2 =>
  (cO σ l0 9).bind fun u18 =>
  (f171 l0 v2 12 σ).bind fun y3 =>
  (cO y3 l0 9).bind fun u17 =>
  (f178 l0 y3).bind fun y4 =>
  (gR y4.2 l0 9 4).bind fun r5 =>
  (gI y4.2 r5 8 0).bind fun v6 =>
  (cO y4.2 l0 9).bind fun u16 =>
  (f169 l0 (UInt32.ofNat 15) 0 v6 y4.2).bind fun y7 =>
  (gI y7.2 l0 9 9).bind fun v8 =>
  if v8 = 5 then
  some y7.2
  else
  (gR y7.2 l0 9 4).bind fun r9 =>
  (gR y7.2 r9 8 12).bind fun r10 =>
  (gI y7.2 l0 9 15).bind fun v11 =>
  (tI y7.2 r10 ((6 * y4.1) + v11) y7.1).bind fun σ12 =>
  (gR σ12 l0 9 4).bind fun r13 =>
  (gI σ12 r13 8 4).bind fun v14 =>
  (pI σ12 r13 8 4 (v14 + 1)).bind fun σ15 =>
  some σ15
set_option maxRecDepth 20000 in
set_option maxHeartbeats 1000000 in
theorem e179 (d : Nat) {l0 : Nat} {σ : xM} {y : xM} (h : f179 l0 σ = some y) : Rn (d + 10) 179 0 [.ref l0, .retAddr 0, .retAddr 0] [] σ (none, y) := by
  unfold f179 at h
  refine rn_steps 2 2 [.ref l0, .retAddr 0, .retAddr 0] [.ref l0, .ref l0] rfl ?_
  obtain ⟨r1, hr1, h⟩ := Option.bind_eq_some_iff.mp h
  refine rn_gR (c := 9) (f := 4) rfl rfl ⟨⟨rfl, rfl⟩, rfl⟩ hr1 ?_
  refine rn_steps 0 5 [.ref l0, .retAddr 0, .retAddr 0] [.ref r1, .ref l0] rfl ?_
  obtain ⟨v2, hv2, h⟩ := Option.bind_eq_some_iff.mp h
  refine rn_gI (c := 8) (f := 4) rfl rfl ⟨⟨rfl, rfl⟩, Or.inl rfl⟩ hv2 ?_
  refine rn_steps 1 10 [.ref l0, .retAddr 0, .retAddr 0] [.int 12, .int v2, .ref l0] rfl ?_
  obtain ⟨u18, hu18, h⟩ := Option.bind_eq_some_iff.mp h
  obtain ⟨y3, hy3, h⟩ := Option.bind_eq_some_iff.mp h
  refine rn_callV [.int v2, .int 12] rfl rfl ⟨rfl, rfl⟩ hu18 rfl rfl (e171 (d + 7) hy3) ?_
  refine rn_steps 1 14 [.ref l0, .retAddr 0, .retAddr 0] [.ref l0] rfl ?_
  obtain ⟨u17, hu17, h⟩ := Option.bind_eq_some_iff.mp h
  obtain ⟨y4, hy4, h⟩ := Option.bind_eq_some_iff.mp h
  refine rn_callV [] rfl rfl ⟨rfl, rfl⟩ hu17 rfl rfl (e178 d hy4) ?_
  refine rn_steps 5 23 [.ref l0, .int y4.1, .retAddr 0] [.ref l0, .int 0, .float (UInt32.ofNat 15), .ref l0] rfl ?_
  obtain ⟨r5, hr5, h⟩ := Option.bind_eq_some_iff.mp h
  refine rn_gR (c := 9) (f := 4) rfl rfl ⟨⟨rfl, rfl⟩, rfl⟩ hr5 ?_
  refine rn_steps 0 26 [.ref l0, .int y4.1, .retAddr 0] [.ref r5, .int 0, .float (UInt32.ofNat 15), .ref l0] rfl ?_
  obtain ⟨v6, hv6, h⟩ := Option.bind_eq_some_iff.mp h
  refine rn_gI (c := 8) (f := 0) rfl rfl ⟨⟨rfl, rfl⟩, Or.inl rfl⟩ hv6 ?_
  refine rn_steps 0 29 [.ref l0, .int y4.1, .retAddr 0] [.int v6, .int 0, .float (UInt32.ofNat 15), .ref l0] rfl ?_
  obtain ⟨u16, hu16, h⟩ := Option.bind_eq_some_iff.mp h
  obtain ⟨y7, hy7, h⟩ := Option.bind_eq_some_iff.mp h
  refine rn_callV [.float (UInt32.ofNat 15), .int 0, .int v6] rfl rfl ⟨rfl, rfl⟩ hu16 rfl rfl (e169 (d + 2) hy7) ?_
  refine rn_steps 2 34 [.ref l0, .int y4.1, .int y7.1] [.ref l0] rfl ?_
  obtain ⟨v8, hv8, h⟩ := Option.bind_eq_some_iff.mp h
  refine rn_gI (c := 9) (f := 9) rfl rfl ⟨⟨rfl, rfl⟩, Or.inl rfl⟩ hv8 ?_
  refine rn_steps 1 38 [.ref l0, .int y4.1, .int y7.1] [.int 5, .int v8] rfl ?_
  refine rn_br (c := ¬ v8 = 5) rfl rfl decide_eq_true_iff (fun hb => ?_) (fun hb => ?_)
  · rw [if_neg hb] at h
    refine rn_steps 1 43 [.ref l0, .int y4.1, .int y7.1] [.ref l0] rfl ?_
    obtain ⟨r9, hr9, h⟩ := Option.bind_eq_some_iff.mp h
    refine rn_gR (c := 9) (f := 4) rfl rfl ⟨⟨rfl, rfl⟩, rfl⟩ hr9 ?_
    refine rn_steps 0 46 [.ref l0, .int y4.1, .int y7.1] [.ref r9] rfl ?_
    obtain ⟨r10, hr10, h⟩ := Option.bind_eq_some_iff.mp h
    refine rn_gR (c := 8) (f := 12) rfl rfl ⟨⟨rfl, rfl⟩, rfl⟩ hr10 ?_
    refine rn_steps 4 54 [.ref l0, .int y4.1, .int y7.1] [.ref l0, .int (6 * y4.1), .ref r10] rfl ?_
    obtain ⟨v11, hv11, h⟩ := Option.bind_eq_some_iff.mp h
    refine rn_gI (c := 9) (f := 15) rfl rfl ⟨⟨rfl, rfl⟩, Or.inl rfl⟩ hv11 ?_
    refine rn_steps 2 59 [.ref l0, .int y4.1, .int y7.1] [.int y7.1, .int ((6 * y4.1) + v11), .ref r10] rfl ?_
    obtain ⟨σ12, hσ12, h⟩ := Option.bind_eq_some_iff.mp h
    refine rn_tI rfl hσ12 ?_
    refine rn_steps 1 61 [.ref l0, .int y4.1, .int y7.1] [.ref l0] rfl ?_
    obtain ⟨r13, hr13, h⟩ := Option.bind_eq_some_iff.mp h
    refine rn_gR (c := 9) (f := 4) rfl rfl ⟨⟨rfl, rfl⟩, rfl⟩ hr13 ?_
    refine rn_steps 1 65 [.ref l0, .int y4.1, .int y7.1] [.ref r13, .ref r13] rfl ?_
    obtain ⟨v14, hv14, h⟩ := Option.bind_eq_some_iff.mp h
    refine rn_gI (c := 8) (f := 4) rfl rfl ⟨⟨rfl, rfl⟩, Or.inl rfl⟩ hv14 ?_
    refine rn_steps 2 70 [.ref l0, .int y4.1, .int y7.1] [.int (v14 + 1), .ref r13] rfl ?_
    obtain ⟨σ15, hσ15, h⟩ := Option.bind_eq_some_iff.mp h
    refine rn_pI (c := 8) (f := 4) rfl rfl ⟨⟨rfl, rfl⟩, rfl⟩ hσ15 ?_
    refine rn_steps 0 73 [.ref l0, .int y4.1, .int y7.1] [] rfl ?_
    cases h
    exact rn_ret rfl rfl rfl
  · rw [if_pos (Decidable.not_not.mp hb)] at h
    refine rn_steps 0 41 [.ref l0, .int y4.1, .int y7.1] [] rfl ?_
    cases h
    exact rn_ret rfl rfl rfl
/-- LastAskedModel.readHeard()V -/
noncomputable def f180 (l0 : Nat) (σ : xM) : Option xM :=
  (gR σ l0 9 4).bind fun r1 =>
  (gI σ r1 8 5).bind fun v2 =>
  (cO σ l0 9).bind fun u36 =>
  (f171 l0 v2 3 σ).bind fun y3 =>
  (cO y3 l0 9).bind fun u35 =>
  (f178 l0 y3).bind fun y4 =>
  (gR y4.2 l0 9 4).bind fun r5 =>
  (gI y4.2 r5 8 0).bind fun v6 =>
  (cO y4.2 l0 9).bind fun u34 =>
  (f169 l0 (UInt32.ofNat 15) 0 v6 y4.2).bind fun y7 =>
  (cO y7.2 l0 9).bind fun u33 =>
  (f169 l0 (UInt32.ofNat 16) 0 3 y7.2).bind fun y8 =>
  (gI y8.2 l0 9 9).bind fun v9 =>
  if v9 = 5 then
  some y8.2
  else
  (gR y8.2 l0 9 4).bind fun r10 =>
  (gR y8.2 r10 8 12).bind fun r11 =>
  (gI y8.2 l0 9 15).bind fun v12 =>
  (tI y8.2 r11 ((6 * y4.1) + v12) y7.1).bind fun σ13 =>
  (gR σ13 l0 9 4).bind fun r14 =>
  (gR σ13 r14 8 13).bind fun r15 =>
  (gR σ13 l0 9 4).bind fun r16 =>
  (gI σ13 r16 8 5).bind fun v17 =>
  (tI σ13 r15 v17 y4.1).bind fun σ18 =>
  (gR σ18 l0 9 4).bind fun r19 =>
  (gR σ18 r19 8 14).bind fun r20 =>
  (gR σ18 l0 9 4).bind fun r21 =>
  (gI σ18 r21 8 5).bind fun v22 =>
  (gI σ18 l0 9 15).bind fun v23 =>
  (tI σ18 r20 v22 v23).bind fun σ24 =>
  (gR σ24 l0 9 4).bind fun r25 =>
  (gR σ24 r25 8 15).bind fun r26 =>
  (gR σ24 l0 9 4).bind fun r27 =>
  (gI σ24 r27 8 5).bind fun v28 =>
  (tI σ24 r26 v28 y8.1).bind fun σ29 =>
  (gR σ29 l0 9 4).bind fun r30 =>
  (gI σ29 r30 8 5).bind fun v31 =>
  (pI σ29 r30 8 5 (v31 + 1)).bind fun σ32 =>
  some σ32
set_option maxRecDepth 20000 in
set_option maxHeartbeats 1000000 in
theorem e180 (d : Nat) {l0 : Nat} {σ : xM} {y : xM} (h : f180 l0 σ = some y) : Rn (d + 10) 180 0 [.ref l0, .retAddr 0, .retAddr 0, .retAddr 0] [] σ (none, y) := by
  unfold f180 at h
  refine rn_steps 2 2 [.ref l0, .retAddr 0, .retAddr 0, .retAddr 0] [.ref l0, .ref l0] rfl ?_
  obtain ⟨r1, hr1, h⟩ := Option.bind_eq_some_iff.mp h
  refine rn_gR (c := 9) (f := 4) rfl rfl ⟨⟨rfl, rfl⟩, rfl⟩ hr1 ?_
  refine rn_steps 0 5 [.ref l0, .retAddr 0, .retAddr 0, .retAddr 0] [.ref r1, .ref l0] rfl ?_
  obtain ⟨v2, hv2, h⟩ := Option.bind_eq_some_iff.mp h
  refine rn_gI (c := 8) (f := 5) rfl rfl ⟨⟨rfl, rfl⟩, Or.inl rfl⟩ hv2 ?_
  refine rn_steps 1 9 [.ref l0, .retAddr 0, .retAddr 0, .retAddr 0] [.int 3, .int v2, .ref l0] rfl ?_
  obtain ⟨u36, hu36, h⟩ := Option.bind_eq_some_iff.mp h
  obtain ⟨y3, hy3, h⟩ := Option.bind_eq_some_iff.mp h
  refine rn_callV [.int v2, .int 3] rfl rfl ⟨rfl, rfl⟩ hu36 rfl rfl (e171 (d + 7) hy3) ?_
  refine rn_steps 1 13 [.ref l0, .retAddr 0, .retAddr 0, .retAddr 0] [.ref l0] rfl ?_
  obtain ⟨u35, hu35, h⟩ := Option.bind_eq_some_iff.mp h
  obtain ⟨y4, hy4, h⟩ := Option.bind_eq_some_iff.mp h
  refine rn_callV [] rfl rfl ⟨rfl, rfl⟩ hu35 rfl rfl (e178 d hy4) ?_
  refine rn_steps 5 22 [.ref l0, .int y4.1, .retAddr 0, .retAddr 0] [.ref l0, .int 0, .float (UInt32.ofNat 15), .ref l0] rfl ?_
  obtain ⟨r5, hr5, h⟩ := Option.bind_eq_some_iff.mp h
  refine rn_gR (c := 9) (f := 4) rfl rfl ⟨⟨rfl, rfl⟩, rfl⟩ hr5 ?_
  refine rn_steps 0 25 [.ref l0, .int y4.1, .retAddr 0, .retAddr 0] [.ref r5, .int 0, .float (UInt32.ofNat 15), .ref l0] rfl ?_
  obtain ⟨v6, hv6, h⟩ := Option.bind_eq_some_iff.mp h
  refine rn_gI (c := 8) (f := 0) rfl rfl ⟨⟨rfl, rfl⟩, Or.inl rfl⟩ hv6 ?_
  refine rn_steps 0 28 [.ref l0, .int y4.1, .retAddr 0, .retAddr 0] [.int v6, .int 0, .float (UInt32.ofNat 15), .ref l0] rfl ?_
  obtain ⟨u34, hu34, h⟩ := Option.bind_eq_some_iff.mp h
  obtain ⟨y7, hy7, h⟩ := Option.bind_eq_some_iff.mp h
  refine rn_callV [.float (UInt32.ofNat 15), .int 0, .int v6] rfl rfl ⟨rfl, rfl⟩ hu34 rfl rfl (e169 (d + 2) hy7) ?_
  refine rn_steps 5 38 [.ref l0, .int y4.1, .int y7.1, .retAddr 0] [.int 3, .int 0, .float (UInt32.ofNat 16), .ref l0] rfl ?_
  obtain ⟨u33, hu33, h⟩ := Option.bind_eq_some_iff.mp h
  obtain ⟨y8, hy8, h⟩ := Option.bind_eq_some_iff.mp h
  refine rn_callV [.float (UInt32.ofNat 16), .int 0, .int 3] rfl rfl ⟨rfl, rfl⟩ hu33 rfl rfl (e169 (d + 2) hy8) ?_
  refine rn_steps 2 43 [.ref l0, .int y4.1, .int y7.1, .int y8.1] [.ref l0] rfl ?_
  obtain ⟨v9, hv9, h⟩ := Option.bind_eq_some_iff.mp h
  refine rn_gI (c := 9) (f := 9) rfl rfl ⟨⟨rfl, rfl⟩, Or.inl rfl⟩ hv9 ?_
  refine rn_steps 1 47 [.ref l0, .int y4.1, .int y7.1, .int y8.1] [.int 5, .int v9] rfl ?_
  refine rn_br (c := ¬ v9 = 5) rfl rfl decide_eq_true_iff (fun hb => ?_) (fun hb => ?_)
  · rw [if_neg hb] at h
    refine rn_steps 1 52 [.ref l0, .int y4.1, .int y7.1, .int y8.1] [.ref l0] rfl ?_
    obtain ⟨r10, hr10, h⟩ := Option.bind_eq_some_iff.mp h
    refine rn_gR (c := 9) (f := 4) rfl rfl ⟨⟨rfl, rfl⟩, rfl⟩ hr10 ?_
    refine rn_steps 0 55 [.ref l0, .int y4.1, .int y7.1, .int y8.1] [.ref r10] rfl ?_
    obtain ⟨r11, hr11, h⟩ := Option.bind_eq_some_iff.mp h
    refine rn_gR (c := 8) (f := 12) rfl rfl ⟨⟨rfl, rfl⟩, rfl⟩ hr11 ?_
    refine rn_steps 4 63 [.ref l0, .int y4.1, .int y7.1, .int y8.1] [.ref l0, .int (6 * y4.1), .ref r11] rfl ?_
    obtain ⟨v12, hv12, h⟩ := Option.bind_eq_some_iff.mp h
    refine rn_gI (c := 9) (f := 15) rfl rfl ⟨⟨rfl, rfl⟩, Or.inl rfl⟩ hv12 ?_
    refine rn_steps 2 68 [.ref l0, .int y4.1, .int y7.1, .int y8.1] [.int y7.1, .int ((6 * y4.1) + v12), .ref r11] rfl ?_
    obtain ⟨σ13, hσ13, h⟩ := Option.bind_eq_some_iff.mp h
    refine rn_tI rfl hσ13 ?_
    refine rn_steps 1 70 [.ref l0, .int y4.1, .int y7.1, .int y8.1] [.ref l0] rfl ?_
    obtain ⟨r14, hr14, h⟩ := Option.bind_eq_some_iff.mp h
    refine rn_gR (c := 9) (f := 4) rfl rfl ⟨⟨rfl, rfl⟩, rfl⟩ hr14 ?_
    refine rn_steps 0 73 [.ref l0, .int y4.1, .int y7.1, .int y8.1] [.ref r14] rfl ?_
    obtain ⟨r15, hr15, h⟩ := Option.bind_eq_some_iff.mp h
    refine rn_gR (c := 8) (f := 13) rfl rfl ⟨⟨rfl, rfl⟩, rfl⟩ hr15 ?_
    refine rn_steps 1 77 [.ref l0, .int y4.1, .int y7.1, .int y8.1] [.ref l0, .ref r15] rfl ?_
    obtain ⟨r16, hr16, h⟩ := Option.bind_eq_some_iff.mp h
    refine rn_gR (c := 9) (f := 4) rfl rfl ⟨⟨rfl, rfl⟩, rfl⟩ hr16 ?_
    refine rn_steps 0 80 [.ref l0, .int y4.1, .int y7.1, .int y8.1] [.ref r16, .ref r15] rfl ?_
    obtain ⟨v17, hv17, h⟩ := Option.bind_eq_some_iff.mp h
    refine rn_gI (c := 8) (f := 5) rfl rfl ⟨⟨rfl, rfl⟩, Or.inl rfl⟩ hv17 ?_
    refine rn_steps 1 84 [.ref l0, .int y4.1, .int y7.1, .int y8.1] [.int y4.1, .int v17, .ref r15] rfl ?_
    obtain ⟨σ18, hσ18, h⟩ := Option.bind_eq_some_iff.mp h
    refine rn_tI rfl hσ18 ?_
    refine rn_steps 1 86 [.ref l0, .int y4.1, .int y7.1, .int y8.1] [.ref l0] rfl ?_
    obtain ⟨r19, hr19, h⟩ := Option.bind_eq_some_iff.mp h
    refine rn_gR (c := 9) (f := 4) rfl rfl ⟨⟨rfl, rfl⟩, rfl⟩ hr19 ?_
    refine rn_steps 0 89 [.ref l0, .int y4.1, .int y7.1, .int y8.1] [.ref r19] rfl ?_
    obtain ⟨r20, hr20, h⟩ := Option.bind_eq_some_iff.mp h
    refine rn_gR (c := 8) (f := 14) rfl rfl ⟨⟨rfl, rfl⟩, rfl⟩ hr20 ?_
    refine rn_steps 1 93 [.ref l0, .int y4.1, .int y7.1, .int y8.1] [.ref l0, .ref r20] rfl ?_
    obtain ⟨r21, hr21, h⟩ := Option.bind_eq_some_iff.mp h
    refine rn_gR (c := 9) (f := 4) rfl rfl ⟨⟨rfl, rfl⟩, rfl⟩ hr21 ?_
    refine rn_steps 0 96 [.ref l0, .int y4.1, .int y7.1, .int y8.1] [.ref r21, .ref r20] rfl ?_
    obtain ⟨v22, hv22, h⟩ := Option.bind_eq_some_iff.mp h
    refine rn_gI (c := 8) (f := 5) rfl rfl ⟨⟨rfl, rfl⟩, Or.inl rfl⟩ hv22 ?_
    refine rn_steps 1 100 [.ref l0, .int y4.1, .int y7.1, .int y8.1] [.ref l0, .int v22, .ref r20] rfl ?_
    obtain ⟨v23, hv23, h⟩ := Option.bind_eq_some_iff.mp h
    refine rn_gI (c := 9) (f := 15) rfl rfl ⟨⟨rfl, rfl⟩, Or.inl rfl⟩ hv23 ?_
    refine rn_steps 0 103 [.ref l0, .int y4.1, .int y7.1, .int y8.1] [.int v23, .int v22, .ref r20] rfl ?_
    obtain ⟨σ24, hσ24, h⟩ := Option.bind_eq_some_iff.mp h
    refine rn_tI rfl hσ24 ?_
    refine rn_steps 1 105 [.ref l0, .int y4.1, .int y7.1, .int y8.1] [.ref l0] rfl ?_
    obtain ⟨r25, hr25, h⟩ := Option.bind_eq_some_iff.mp h
    refine rn_gR (c := 9) (f := 4) rfl rfl ⟨⟨rfl, rfl⟩, rfl⟩ hr25 ?_
    refine rn_steps 0 108 [.ref l0, .int y4.1, .int y7.1, .int y8.1] [.ref r25] rfl ?_
    obtain ⟨r26, hr26, h⟩ := Option.bind_eq_some_iff.mp h
    refine rn_gR (c := 8) (f := 15) rfl rfl ⟨⟨rfl, rfl⟩, rfl⟩ hr26 ?_
    refine rn_steps 1 112 [.ref l0, .int y4.1, .int y7.1, .int y8.1] [.ref l0, .ref r26] rfl ?_
    obtain ⟨r27, hr27, h⟩ := Option.bind_eq_some_iff.mp h
    refine rn_gR (c := 9) (f := 4) rfl rfl ⟨⟨rfl, rfl⟩, rfl⟩ hr27 ?_
    refine rn_steps 0 115 [.ref l0, .int y4.1, .int y7.1, .int y8.1] [.ref r27, .ref r26] rfl ?_
    obtain ⟨v28, hv28, h⟩ := Option.bind_eq_some_iff.mp h
    refine rn_gI (c := 8) (f := 5) rfl rfl ⟨⟨rfl, rfl⟩, Or.inl rfl⟩ hv28 ?_
    refine rn_steps 1 119 [.ref l0, .int y4.1, .int y7.1, .int y8.1] [.int y8.1, .int v28, .ref r26] rfl ?_
    obtain ⟨σ29, hσ29, h⟩ := Option.bind_eq_some_iff.mp h
    refine rn_tI rfl hσ29 ?_
    refine rn_steps 1 121 [.ref l0, .int y4.1, .int y7.1, .int y8.1] [.ref l0] rfl ?_
    obtain ⟨r30, hr30, h⟩ := Option.bind_eq_some_iff.mp h
    refine rn_gR (c := 9) (f := 4) rfl rfl ⟨⟨rfl, rfl⟩, rfl⟩ hr30 ?_
    refine rn_steps 1 125 [.ref l0, .int y4.1, .int y7.1, .int y8.1] [.ref r30, .ref r30] rfl ?_
    obtain ⟨v31, hv31, h⟩ := Option.bind_eq_some_iff.mp h
    refine rn_gI (c := 8) (f := 5) rfl rfl ⟨⟨rfl, rfl⟩, Or.inl rfl⟩ hv31 ?_
    refine rn_steps 2 130 [.ref l0, .int y4.1, .int y7.1, .int y8.1] [.int (v31 + 1), .ref r30] rfl ?_
    obtain ⟨σ32, hσ32, h⟩ := Option.bind_eq_some_iff.mp h
    refine rn_pI (c := 8) (f := 5) rfl rfl ⟨⟨rfl, rfl⟩, rfl⟩ hσ32 ?_
    refine rn_steps 0 133 [.ref l0, .int y4.1, .int y7.1, .int y8.1] [] rfl ?_
    cases h
    exact rn_ret rfl rfl rfl
  · rw [if_pos (Decidable.not_not.mp hb)] at h
    refine rn_steps 0 50 [.ref l0, .int y4.1, .int y7.1, .int y8.1] [] rfl ?_
    cases h
    exact rn_ret rfl rfl rfl
noncomputable def f181_76 (l0 : Nat) (l1 : Int32) (l2 : Int32) (σ : xM) : Option xM :=
  (cO σ l0 9).bind fun u9 =>
  (f165 l0 σ).bind fun y1 =>
  (gI y1 l0 9 9).bind fun v2 =>
  if v2 = 5 then
  some y1
  else
  (gR y1 l0 9 4).bind fun r3 =>
  (gR y1 r3 8 11).bind fun r4 =>
  (tI y1 r4 l1 l2).bind fun σ5 =>
  (gR σ5 l0 9 4).bind fun r6 =>
  (gI σ5 r6 8 6).bind fun v7 =>
  (pI σ5 r6 8 6 (v7 + 1)).bind fun σ8 =>
  some σ8
set_option maxRecDepth 20000 in
set_option maxHeartbeats 1000000 in
theorem e181_76 (d : Nat) (l0 : Nat) (l1 : Int32) (l2 : Int32) (σ : xM) (y : xM) (h : f181_76 l0 l1 l2 σ = some y) : Rn (d + 9) 181 76 [.ref l0, .int l1, .int l2] [] σ (none, y) := by
  unfold f181_76 at h
  refine rn_steps 1 77 [.ref l0, .int l1, .int l2] [.ref l0] rfl ?_
  obtain ⟨u9, hu9, h⟩ := Option.bind_eq_some_iff.mp h
  obtain ⟨y1, hy1, h⟩ := Option.bind_eq_some_iff.mp h
  refine rn_callV [] rfl rfl ⟨rfl, rfl⟩ hu9 rfl rfl (e165 (d + 7) hy1) ?_
  refine rn_steps 1 81 [.ref l0, .int l1, .int l2] [.ref l0] rfl ?_
  obtain ⟨v2, hv2, h⟩ := Option.bind_eq_some_iff.mp h
  refine rn_gI (c := 9) (f := 9) rfl rfl ⟨⟨rfl, rfl⟩, Or.inl rfl⟩ hv2 ?_
  refine rn_steps 1 85 [.ref l0, .int l1, .int l2] [.int 5, .int v2] rfl ?_
  refine rn_br (c := ¬ v2 = 5) rfl rfl decide_eq_true_iff (fun hb => ?_) (fun hb => ?_)
  · rw [if_neg hb] at h
    refine rn_steps 1 90 [.ref l0, .int l1, .int l2] [.ref l0] rfl ?_
    obtain ⟨r3, hr3, h⟩ := Option.bind_eq_some_iff.mp h
    refine rn_gR (c := 9) (f := 4) rfl rfl ⟨⟨rfl, rfl⟩, rfl⟩ hr3 ?_
    refine rn_steps 0 93 [.ref l0, .int l1, .int l2] [.ref r3] rfl ?_
    obtain ⟨r4, hr4, h⟩ := Option.bind_eq_some_iff.mp h
    refine rn_gR (c := 8) (f := 11) rfl rfl ⟨⟨rfl, rfl⟩, rfl⟩ hr4 ?_
    refine rn_steps 2 98 [.ref l0, .int l1, .int l2] [.int l2, .int l1, .ref r4] rfl ?_
    obtain ⟨σ5, hσ5, h⟩ := Option.bind_eq_some_iff.mp h
    refine rn_tI rfl hσ5 ?_
    refine rn_steps 1 100 [.ref l0, .int l1, .int l2] [.ref l0] rfl ?_
    obtain ⟨r6, hr6, h⟩ := Option.bind_eq_some_iff.mp h
    refine rn_gR (c := 9) (f := 4) rfl rfl ⟨⟨rfl, rfl⟩, rfl⟩ hr6 ?_
    refine rn_steps 1 104 [.ref l0, .int l1, .int l2] [.ref r6, .ref r6] rfl ?_
    obtain ⟨v7, hv7, h⟩ := Option.bind_eq_some_iff.mp h
    refine rn_gI (c := 8) (f := 6) rfl rfl ⟨⟨rfl, rfl⟩, Or.inl rfl⟩ hv7 ?_
    refine rn_steps 2 109 [.ref l0, .int l1, .int l2] [.int (v7 + 1), .ref r6] rfl ?_
    obtain ⟨σ8, hσ8, h⟩ := Option.bind_eq_some_iff.mp h
    refine rn_pI (c := 8) (f := 6) rfl rfl ⟨⟨rfl, rfl⟩, rfl⟩ hσ8 ?_
    refine rn_steps 0 112 [.ref l0, .int l1, .int l2] [] rfl ?_
    cases h
    exact rn_ret rfl rfl rfl
  · rw [if_pos (Decidable.not_not.mp hb)] at h
    refine rn_steps 0 88 [.ref l0, .int l1, .int l2] [] rfl ?_
    cases h
    exact rn_ret rfl rfl rfl
noncomputable def f181_37 (l0 : Nat) (l1 : Int32) (σ : xM) : Option xM :=
  (cO σ l0 9).bind fun u9 =>
  (f165 l0 σ).bind fun y1 =>
  (cO y1 l0 9).bind fun u8 =>
  (f167 l0 (UInt32.ofNat 8) y1).bind fun y2 =>
  if y2.1 = 0 then
  (cO y2.2 l0 9).bind fun u7 =>
  (f172 l0 y2.2).bind fun y3 =>
  (gI y3.2 l0 9 9).bind fun v4 =>
  if v4 = 5 then
  f181_76 l0 l1 y3.1 y3.2
  else
  if y3.1 = l1 then
  (cO y3.2 l0 9).bind fun u6 =>
  (f166 l0 3 y3.2).bind fun y5 =>
  f181_76 l0 l1 y3.1 y5
  else
  f181_76 l0 l1 y3.1 y3.2
  else
  f181_76 l0 l1 (-2) y2.2
set_option maxRecDepth 20000 in
set_option maxHeartbeats 1000000 in
theorem e181_37 (d : Nat) (l0 : Nat) (l1 : Int32) (x2 : Value) (σ : xM) (y : xM) (h : f181_37 l0 l1 σ = some y) : Rn (d + 9) 181 37 [.ref l0, .int l1, x2] [] σ (none, y) := by
  unfold f181_37 at h
  refine rn_steps 1 38 [.ref l0, .int l1, x2] [.ref l0] rfl ?_
  obtain ⟨u9, hu9, h⟩ := Option.bind_eq_some_iff.mp h
  obtain ⟨y1, hy1, h⟩ := Option.bind_eq_some_iff.mp h
  refine rn_callV [] rfl rfl ⟨rfl, rfl⟩ hu9 rfl rfl (e165 (d + 7) hy1) ?_
  refine rn_steps 4 47 [.ref l0, .int l1, .int (-2)] [.float (UInt32.ofNat 8), .ref l0] rfl ?_
  obtain ⟨u8, hu8, h⟩ := Option.bind_eq_some_iff.mp h
  obtain ⟨y2, hy2, h⟩ := Option.bind_eq_some_iff.mp h
  refine rn_callV [.float (UInt32.ofNat 8)] rfl rfl ⟨rfl, rfl⟩ hu8 rfl rfl (e167 (d + 2) hy2) ?_
  refine rn_steps 0 50 [.ref l0, .int l1, .int (-2)] [.int y2.1] rfl ?_
  refine rn_br (c := ¬ y2.1 = 0) rfl rfl decide_eq_true_iff (fun hb => ?_) (fun hb => ?_)
  · rw [if_neg hb] at h
    refine rn_steps 0 76 [.ref l0, .int l1, .int (-2)] [] rfl ?_
    exact e181_76 d _ _ _ _ _ h
  · rw [if_pos (Decidable.not_not.mp hb)] at h
    refine rn_steps 1 54 [.ref l0, .int l1, .int (-2)] [.ref l0] rfl ?_
    obtain ⟨u7, hu7, h⟩ := Option.bind_eq_some_iff.mp h
    obtain ⟨y3, hy3, h⟩ := Option.bind_eq_some_iff.mp h
    refine rn_callV [] rfl rfl ⟨rfl, rfl⟩ hu7 rfl rfl (e172 d hy3) ?_
    refine rn_steps 2 59 [.ref l0, .int l1, .int y3.1] [.ref l0] rfl ?_
    obtain ⟨v4, hv4, h⟩ := Option.bind_eq_some_iff.mp h
    refine rn_gI (c := 9) (f := 9) rfl rfl ⟨⟨rfl, rfl⟩, Or.inl rfl⟩ hv4 ?_
    refine rn_steps 1 63 [.ref l0, .int l1, .int y3.1] [.int 5, .int v4] rfl ?_
    refine rn_br (c := v4 = 5) rfl rfl decide_eq_true_iff (fun hb => ?_) (fun hb => ?_)
    · rw [if_pos hb] at h
      refine rn_steps 0 76 [.ref l0, .int l1, .int y3.1] [] rfl ?_
      exact e181_76 d _ _ _ _ _ h
    · rw [if_neg hb] at h
      refine rn_steps 2 68 [.ref l0, .int l1, .int y3.1] [.int l1, .int y3.1] rfl ?_
      refine rn_br (c := ¬ y3.1 = l1) rfl rfl decide_eq_true_iff (fun hb => ?_) (fun hb => ?_)
      · rw [if_neg hb] at h
        refine rn_steps 0 76 [.ref l0, .int l1, .int y3.1] [] rfl ?_
        exact e181_76 d _ _ _ _ _ h
      · rw [if_pos (Decidable.not_not.mp hb)] at h
        refine rn_steps 2 73 [.ref l0, .int l1, .int y3.1] [.int 3, .ref l0] rfl ?_
        obtain ⟨u6, hu6, h⟩ := Option.bind_eq_some_iff.mp h
        obtain ⟨y5, hy5, h⟩ := Option.bind_eq_some_iff.mp h
        refine rn_callV [.int 3] rfl rfl ⟨rfl, rfl⟩ hu6 rfl rfl (e166 (d + 8) hy5) ?_
        refine rn_steps 0 76 [.ref l0, .int l1, .int y3.1] [] rfl ?_
        exact e181_76 d _ _ _ _ _ h
/-- LastAskedModel.readWent()V -/
noncomputable def f181 (l0 : Nat) (σ : xM) : Option xM :=
  (cO σ l0 9).bind fun u10 =>
  (f171 l0 0 1 σ).bind fun y1 =>
  (cO y1 l0 9).bind fun u9 =>
  (f172 l0 y1).bind fun y2 =>
  (gI y2.2 l0 9 9).bind fun v3 =>
  if v3 = 5 then
  f181_37 l0 y2.1 y2.2
  else
  (gR y2.2 l0 9 4).bind fun r4 =>
  (gR y2.2 r4 8 11).bind fun r5 =>
  (aI y2.2 r5 y2.1).bind fun v6 =>
  if v6 = (-1) then
  f181_37 l0 y2.1 y2.2
  else
  (cO y2.2 l0 9).bind fun u8 =>
  (f166 l0 3 y2.2).bind fun y7 =>
  f181_37 l0 y2.1 y7
set_option maxRecDepth 20000 in
set_option maxHeartbeats 1000000 in
theorem e181 (d : Nat) {l0 : Nat} {σ : xM} {y : xM} (h : f181 l0 σ = some y) : Rn (d + 9) 181 0 [.ref l0, .retAddr 0, .retAddr 0] [] σ (none, y) := by
  unfold f181 at h
  refine rn_steps 3 3 [.ref l0, .retAddr 0, .retAddr 0] [.int 1, .int 0, .ref l0] rfl ?_
  obtain ⟨u10, hu10, h⟩ := Option.bind_eq_some_iff.mp h
  obtain ⟨y1, hy1, h⟩ := Option.bind_eq_some_iff.mp h
  refine rn_callV [.int 0, .int 1] rfl rfl ⟨rfl, rfl⟩ hu10 rfl rfl (e171 (d + 6) hy1) ?_
  refine rn_steps 1 7 [.ref l0, .retAddr 0, .retAddr 0] [.ref l0] rfl ?_
  obtain ⟨u9, hu9, h⟩ := Option.bind_eq_some_iff.mp h
  obtain ⟨y2, hy2, h⟩ := Option.bind_eq_some_iff.mp h
  refine rn_callV [] rfl rfl ⟨rfl, rfl⟩ hu9 rfl rfl (e172 d hy2) ?_
  refine rn_steps 2 12 [.ref l0, .int y2.1, .retAddr 0] [.ref l0] rfl ?_
  obtain ⟨v3, hv3, h⟩ := Option.bind_eq_some_iff.mp h
  refine rn_gI (c := 9) (f := 9) rfl rfl ⟨⟨rfl, rfl⟩, Or.inl rfl⟩ hv3 ?_
  refine rn_steps 1 16 [.ref l0, .int y2.1, .retAddr 0] [.int 5, .int v3] rfl ?_
  refine rn_br (c := v3 = 5) rfl rfl decide_eq_true_iff (fun hb => ?_) (fun hb => ?_)
  · rw [if_pos hb] at h
    refine rn_steps 0 37 [.ref l0, .int y2.1, .retAddr 0] [] rfl ?_
    exact e181_37 d _ _ _ _ _ h
  · rw [if_neg hb] at h
    refine rn_steps 1 20 [.ref l0, .int y2.1, .retAddr 0] [.ref l0] rfl ?_
    obtain ⟨r4, hr4, h⟩ := Option.bind_eq_some_iff.mp h
    refine rn_gR (c := 9) (f := 4) rfl rfl ⟨⟨rfl, rfl⟩, rfl⟩ hr4 ?_
    refine rn_steps 0 23 [.ref l0, .int y2.1, .retAddr 0] [.ref r4] rfl ?_
    obtain ⟨r5, hr5, h⟩ := Option.bind_eq_some_iff.mp h
    refine rn_gR (c := 8) (f := 11) rfl rfl ⟨⟨rfl, rfl⟩, rfl⟩ hr5 ?_
    refine rn_steps 1 27 [.ref l0, .int y2.1, .retAddr 0] [.int y2.1, .ref r5] rfl ?_
    obtain ⟨v6, hv6, h⟩ := Option.bind_eq_some_iff.mp h
    refine rn_aI rfl hv6 ?_
    refine rn_steps 1 29 [.ref l0, .int y2.1, .retAddr 0] [.int (-1), .int v6] rfl ?_
    refine rn_br (c := v6 = (-1)) rfl rfl decide_eq_true_iff (fun hb => ?_) (fun hb => ?_)
    · rw [if_pos hb] at h
      refine rn_steps 0 37 [.ref l0, .int y2.1, .retAddr 0] [] rfl ?_
      exact e181_37 d _ _ _ _ _ h
    · rw [if_neg hb] at h
      refine rn_steps 2 34 [.ref l0, .int y2.1, .retAddr 0] [.int 3, .ref l0] rfl ?_
      obtain ⟨u8, hu8, h⟩ := Option.bind_eq_some_iff.mp h
      obtain ⟨y7, hy7, h⟩ := Option.bind_eq_some_iff.mp h
      refine rn_callV [.int 3] rfl rfl ⟨rfl, rfl⟩ hu8 rfl rfl (e166 (d + 8) hy7) ?_
      refine rn_steps 0 37 [.ref l0, .int y2.1, .retAddr 0] [] rfl ?_
      exact e181_37 d _ _ _ _ _ h
noncomputable def f174_101 (σ : xM) : Option xM :=
  some σ
set_option maxRecDepth 20000 in
set_option maxHeartbeats 1000000 in
theorem e174_101 (d : Nat) (x0 : Value) (σ : xM) (y : xM) (h : f174_101 σ = some y) : Rn (d + 11) 174 101 [x0] [] σ (none, y) := by
  unfold f174_101 at h
  cases h
  exact rn_ret rfl rfl rfl
/-- LastAskedModel.readLine()V -/
noncomputable def f174 (l0 : Nat) (σ : xM) : Option xM :=
  (cO σ l0 9).bind fun u26 =>
  (f167 l0 (UInt32.ofNat 0) σ).bind fun y1 =>
  if y1.1 = 0 then
  (cO y1.2 l0 9).bind fun u23 =>
  (f167 l0 (UInt32.ofNat 3) y1.2).bind fun y2 =>
  if y2.1 = 0 then
  (cO y2.2 l0 9).bind fun u20 =>
  (f167 l0 (UInt32.ofNat 4) y2.2).bind fun y3 =>
  if y3.1 = 0 then
  (cO y3.2 l0 9).bind fun u17 =>
  (f167 l0 (UInt32.ofNat 5) y3.2).bind fun y4 =>
  if y4.1 = 0 then
  (cO y4.2 l0 9).bind fun u14 =>
  (f167 l0 (UInt32.ofNat 6) y4.2).bind fun y5 =>
  if y5.1 = 0 then
  (cO y5.2 l0 9).bind fun u11 =>
  (f167 l0 (UInt32.ofNat 7) y5.2).bind fun y6 =>
  if y6.1 = 0 then
  (cO y6.2 l0 9).bind fun u8 =>
  (f166 l0 1 y6.2).bind fun y7 =>
  f174_101 y7
  else
  (cO y6.2 l0 9).bind fun u10 =>
  (f181 l0 y6.2).bind fun y9 =>
  f174_101 y9
  else
  (cO y5.2 l0 9).bind fun u13 =>
  (f180 l0 y5.2).bind fun y12 =>
  f174_101 y12
  else
  (cO y4.2 l0 9).bind fun u16 =>
  (f179 l0 y4.2).bind fun y15 =>
  f174_101 y15
  else
  (cO y3.2 l0 9).bind fun u19 =>
  (f177 l0 y3.2).bind fun y18 =>
  f174_101 y18
  else
  (cO y2.2 l0 9).bind fun u22 =>
  (f176 l0 y2.2).bind fun y21 =>
  f174_101 y21
  else
  (cO y1.2 l0 9).bind fun u25 =>
  (f175 l0 y1.2).bind fun y24 =>
  f174_101 y24
set_option maxRecDepth 20000 in
set_option maxHeartbeats 1000000 in
theorem e174 (d : Nat) {l0 : Nat} {σ : xM} {y : xM} (h : f174 l0 σ = some y) : Rn (d + 11) 174 0 [.ref l0] [] σ (none, y) := by
  unfold f174 at h
  refine rn_steps 2 3 [.ref l0] [.float (UInt32.ofNat 0), .ref l0] rfl ?_
  obtain ⟨u26, hu26, h⟩ := Option.bind_eq_some_iff.mp h
  obtain ⟨y1, hy1, h⟩ := Option.bind_eq_some_iff.mp h
  refine rn_callV [.float (UInt32.ofNat 0)] rfl rfl ⟨rfl, rfl⟩ hu26 rfl rfl (e167 (d + 4) hy1) ?_
  refine rn_steps 0 6 [.ref l0] [.int y1.1] rfl ?_
  refine rn_br (c := y1.1 = 0) rfl rfl decide_eq_true_iff (fun hb => ?_) (fun hb => ?_)
  · rw [if_pos hb] at h
    refine rn_steps 2 19 [.ref l0] [.float (UInt32.ofNat 3), .ref l0] rfl ?_
    obtain ⟨u23, hu23, h⟩ := Option.bind_eq_some_iff.mp h
    obtain ⟨y2, hy2, h⟩ := Option.bind_eq_some_iff.mp h
    refine rn_callV [.float (UInt32.ofNat 3)] rfl rfl ⟨rfl, rfl⟩ hu23 rfl rfl (e167 (d + 4) hy2) ?_
    refine rn_steps 0 22 [.ref l0] [.int y2.1] rfl ?_
    refine rn_br (c := y2.1 = 0) rfl rfl decide_eq_true_iff (fun hb => ?_) (fun hb => ?_)
    · rw [if_pos hb] at h
      refine rn_steps 2 35 [.ref l0] [.float (UInt32.ofNat 4), .ref l0] rfl ?_
      obtain ⟨u20, hu20, h⟩ := Option.bind_eq_some_iff.mp h
      obtain ⟨y3, hy3, h⟩ := Option.bind_eq_some_iff.mp h
      refine rn_callV [.float (UInt32.ofNat 4)] rfl rfl ⟨rfl, rfl⟩ hu20 rfl rfl (e167 (d + 4) hy3) ?_
      refine rn_steps 0 38 [.ref l0] [.int y3.1] rfl ?_
      refine rn_br (c := y3.1 = 0) rfl rfl decide_eq_true_iff (fun hb => ?_) (fun hb => ?_)
      · rw [if_pos hb] at h
        refine rn_steps 2 51 [.ref l0] [.float (UInt32.ofNat 5), .ref l0] rfl ?_
        obtain ⟨u17, hu17, h⟩ := Option.bind_eq_some_iff.mp h
        obtain ⟨y4, hy4, h⟩ := Option.bind_eq_some_iff.mp h
        refine rn_callV [.float (UInt32.ofNat 5)] rfl rfl ⟨rfl, rfl⟩ hu17 rfl rfl (e167 (d + 4) hy4) ?_
        refine rn_steps 0 54 [.ref l0] [.int y4.1] rfl ?_
        refine rn_br (c := y4.1 = 0) rfl rfl decide_eq_true_iff (fun hb => ?_) (fun hb => ?_)
        · rw [if_pos hb] at h
          refine rn_steps 2 67 [.ref l0] [.float (UInt32.ofNat 6), .ref l0] rfl ?_
          obtain ⟨u14, hu14, h⟩ := Option.bind_eq_some_iff.mp h
          obtain ⟨y5, hy5, h⟩ := Option.bind_eq_some_iff.mp h
          refine rn_callV [.float (UInt32.ofNat 6)] rfl rfl ⟨rfl, rfl⟩ hu14 rfl rfl (e167 (d + 4) hy5) ?_
          refine rn_steps 0 70 [.ref l0] [.int y5.1] rfl ?_
          refine rn_br (c := y5.1 = 0) rfl rfl decide_eq_true_iff (fun hb => ?_) (fun hb => ?_)
          · rw [if_pos hb] at h
            refine rn_steps 2 83 [.ref l0] [.float (UInt32.ofNat 7), .ref l0] rfl ?_
            obtain ⟨u11, hu11, h⟩ := Option.bind_eq_some_iff.mp h
            obtain ⟨y6, hy6, h⟩ := Option.bind_eq_some_iff.mp h
            refine rn_callV [.float (UInt32.ofNat 7)] rfl rfl ⟨rfl, rfl⟩ hu11 rfl rfl (e167 (d + 4) hy6) ?_
            refine rn_steps 0 86 [.ref l0] [.int y6.1] rfl ?_
            refine rn_br (c := y6.1 = 0) rfl rfl decide_eq_true_iff (fun hb => ?_) (fun hb => ?_)
            · rw [if_pos hb] at h
              refine rn_steps 2 98 [.ref l0] [.int 1, .ref l0] rfl ?_
              obtain ⟨u8, hu8, h⟩ := Option.bind_eq_some_iff.mp h
              obtain ⟨y7, hy7, h⟩ := Option.bind_eq_some_iff.mp h
              refine rn_callV [.int 1] rfl rfl ⟨rfl, rfl⟩ hu8 rfl rfl (e166 (d + 10) hy7) ?_
              refine rn_steps 0 101 [.ref l0] [] rfl ?_
              exact e174_101 d _ _ _ h
            · rw [if_neg hb] at h
              refine rn_steps 1 90 [.ref l0] [.ref l0] rfl ?_
              obtain ⟨u10, hu10, h⟩ := Option.bind_eq_some_iff.mp h
              obtain ⟨y9, hy9, h⟩ := Option.bind_eq_some_iff.mp h
              refine rn_callV [] rfl rfl ⟨rfl, rfl⟩ hu10 rfl rfl (e181 (d + 1) hy9) ?_
              refine rn_steps 1 101 [.ref l0] [] rfl ?_
              exact e174_101 d _ _ _ h
          · rw [if_neg hb] at h
            refine rn_steps 1 74 [.ref l0] [.ref l0] rfl ?_
            obtain ⟨u13, hu13, h⟩ := Option.bind_eq_some_iff.mp h
            obtain ⟨y12, hy12, h⟩ := Option.bind_eq_some_iff.mp h
            refine rn_callV [] rfl rfl ⟨rfl, rfl⟩ hu13 rfl rfl (e180 d hy12) ?_
            refine rn_steps 1 101 [.ref l0] [] rfl ?_
            exact e174_101 d _ _ _ h
        · rw [if_neg hb] at h
          refine rn_steps 1 58 [.ref l0] [.ref l0] rfl ?_
          obtain ⟨u16, hu16, h⟩ := Option.bind_eq_some_iff.mp h
          obtain ⟨y15, hy15, h⟩ := Option.bind_eq_some_iff.mp h
          refine rn_callV [] rfl rfl ⟨rfl, rfl⟩ hu16 rfl rfl (e179 d hy15) ?_
          refine rn_steps 1 101 [.ref l0] [] rfl ?_
          exact e174_101 d _ _ _ h
      · rw [if_neg hb] at h
        refine rn_steps 1 42 [.ref l0] [.ref l0] rfl ?_
        obtain ⟨u19, hu19, h⟩ := Option.bind_eq_some_iff.mp h
        obtain ⟨y18, hy18, h⟩ := Option.bind_eq_some_iff.mp h
        refine rn_callV [] rfl rfl ⟨rfl, rfl⟩ hu19 rfl rfl (e177 (d + 1) hy18) ?_
        refine rn_steps 1 101 [.ref l0] [] rfl ?_
        exact e174_101 d _ _ _ h
    · rw [if_neg hb] at h
      refine rn_steps 1 26 [.ref l0] [.ref l0] rfl ?_
      obtain ⟨u22, hu22, h⟩ := Option.bind_eq_some_iff.mp h
      obtain ⟨y21, hy21, h⟩ := Option.bind_eq_some_iff.mp h
      refine rn_callV [] rfl rfl ⟨rfl, rfl⟩ hu22 rfl rfl (e176 (d + 2) hy21) ?_
      refine rn_steps 1 101 [.ref l0] [] rfl ?_
      exact e174_101 d _ _ _ h
  · rw [if_neg hb] at h
    refine rn_steps 1 10 [.ref l0] [.ref l0] rfl ?_
    obtain ⟨u25, hu25, h⟩ := Option.bind_eq_some_iff.mp h
    obtain ⟨y24, hy24, h⟩ := Option.bind_eq_some_iff.mp h
    refine rn_callV [] rfl rfl ⟨rfl, rfl⟩ hu25 rfl rfl (e175 (d + 2) hy24) ?_
    refine rn_steps 1 101 [.ref l0] [] rfl ?_
    exact e174_101 d _ _ _ h
noncomputable def f173_47 (σ : xM) : Option xM :=
  some σ
set_option maxRecDepth 20000 in
set_option maxHeartbeats 1000000 in
theorem e173_47 (d : Nat) (x0 x1 : Value) (σ : xM) (y : xM) (h : f173_47 σ = some y) : Rn (d + 12) 173 47 [x0, x1] [] σ (none, y) := by
  unfold f173_47 at h
  cases h
  exact rn_ret rfl rfl rfl
noncomputable def f173_31 (l0 : Nat) (σ : xM) : Option xM :=
  (gR σ l0 9 4).bind fun r1 =>
  (gI σ r1 8 2).bind fun v2 =>
  if v2 = 0 then
  (cO σ l0 9).bind fun u4 =>
  (f166 l0 6 σ).bind fun y3 =>
  f173_47 y3
  else
  f173_47 σ
set_option maxRecDepth 20000 in
set_option maxHeartbeats 1000000 in
theorem e173_31 (d : Nat) (l0 : Nat) (x1 : Value) (σ : xM) (y : xM) (h : f173_31 l0 σ = some y) : Rn (d + 12) 173 31 [.ref l0, x1] [] σ (none, y) := by
  unfold f173_31 at h
  refine rn_steps 1 32 [.ref l0, x1] [.ref l0] rfl ?_
  obtain ⟨r1, hr1, h⟩ := Option.bind_eq_some_iff.mp h
  refine rn_gR (c := 9) (f := 4) rfl rfl ⟨⟨rfl, rfl⟩, rfl⟩ hr1 ?_
  refine rn_steps 0 35 [.ref l0, x1] [.ref r1] rfl ?_
  obtain ⟨v2, hv2, h⟩ := Option.bind_eq_some_iff.mp h
  refine rn_gI (c := 8) (f := 2) rfl rfl ⟨⟨rfl, rfl⟩, Or.inl rfl⟩ hv2 ?_
  refine rn_steps 0 38 [.ref l0, x1] [.int v2] rfl ?_
  refine rn_br (c := ¬ v2 = 0) rfl rfl decide_eq_true_iff (fun hb => ?_) (fun hb => ?_)
  · rw [if_neg hb] at h
    refine rn_steps 0 47 [.ref l0, x1] [] rfl ?_
    exact e173_47 d _ _ _ _ h
  · rw [if_pos (Decidable.not_not.mp hb)] at h
    refine rn_steps 2 44 [.ref l0, x1] [.int 6, .ref l0] rfl ?_
    obtain ⟨u4, hu4, h⟩ := Option.bind_eq_some_iff.mp h
    obtain ⟨y3, hy3, h⟩ := Option.bind_eq_some_iff.mp h
    refine rn_callV [.int 6] rfl rfl ⟨rfl, rfl⟩ hu4 rfl rfl (e166 (d + 11) hy3) ?_
    refine rn_steps 0 47 [.ref l0, x1] [] rfl ?_
    exact e173_47 d _ _ _ _ h
noncomputable def f173_18 (l0 : Nat) (σ : xM) : Option xM :=
  (gI σ l0 9 9).bind fun v1 =>
  if v1 = 1 then
  f173_31 l0 σ
  else
  (cO σ l0 9).bind fun u3 =>
  (f166 l0 1 σ).bind fun y2 =>
  f173_31 l0 y2
set_option maxRecDepth 20000 in
set_option maxHeartbeats 1000000 in
theorem e173_18 (d : Nat) (l0 : Nat) (x1 : Value) (σ : xM) (y : xM) (h : f173_18 l0 σ = some y) : Rn (d + 12) 173 18 [.ref l0, x1] [] σ (none, y) := by
  unfold f173_18 at h
  refine rn_steps 1 19 [.ref l0, x1] [.ref l0] rfl ?_
  obtain ⟨v1, hv1, h⟩ := Option.bind_eq_some_iff.mp h
  refine rn_gI (c := 9) (f := 9) rfl rfl ⟨⟨rfl, rfl⟩, Or.inl rfl⟩ hv1 ?_
  refine rn_steps 1 23 [.ref l0, x1] [.int 1, .int v1] rfl ?_
  refine rn_br (c := v1 = 1) rfl rfl decide_eq_true_iff (fun hb => ?_) (fun hb => ?_)
  · rw [if_pos hb] at h
    refine rn_steps 0 31 [.ref l0, x1] [] rfl ?_
    exact e173_31 d _ _ _ _ h
  · rw [if_neg hb] at h
    refine rn_steps 2 28 [.ref l0, x1] [.int 1, .ref l0] rfl ?_
    obtain ⟨u3, hu3, h⟩ := Option.bind_eq_some_iff.mp h
    obtain ⟨y2, hy2, h⟩ := Option.bind_eq_some_iff.mp h
    refine rn_callV [.int 1] rfl rfl ⟨rfl, rfl⟩ hu3 rfl rfl (e166 (d + 11) hy2) ?_
    refine rn_steps 0 31 [.ref l0, x1] [] rfl ?_
    exact e173_31 d _ _ _ _ h
noncomputable def f173_2 : Nat → Nat → Int32 → xM → Option xM
  | 0, _, _, _ => none
  | n + 1, l0, l1, σ =>
    if l1 = 0 then
    f173_18 l0 σ
    else
    (cO σ l0 9).bind fun u4 =>
    (f174 l0 σ).bind fun y1 =>
    (cO y1 l0 9).bind fun u3 =>
    (f168 l0 y1).bind fun y2 =>
    (f173_2 n) l0 y2.1 y2.2
set_option maxRecDepth 20000 in
set_option maxHeartbeats 1000000 in
theorem e173_2 (d : Nat) : ∀ (n : Nat) (l0 : Nat) (l1 : Int32) (σ : xM) (y : xM), f173_2 n l0 l1 σ = some y → Rn (d + 12) 173 2 [.ref l0, .int l1] [] σ (none, y) := by
  intro n
  induction n with
  | zero => intro l0 l1 σ y h; cases h
  | succ n ih =>
    intro l0 l1 σ y h
    unfold f173_2 at h
    refine rn_steps 1 3 [.ref l0, .int l1] [.int l1] rfl ?_
    refine rn_br (c := l1 = 0) rfl rfl decide_eq_true_iff (fun hb => ?_) (fun hb => ?_)
    · rw [if_pos hb] at h
      refine rn_steps 0 18 [.ref l0, .int l1] [] rfl ?_
      exact e173_18 d _ _ _ _ h
    · rw [if_neg hb] at h
      refine rn_steps 1 7 [.ref l0, .int l1] [.ref l0] rfl ?_
      obtain ⟨u4, hu4, h⟩ := Option.bind_eq_some_iff.mp h
      obtain ⟨y1, hy1, h⟩ := Option.bind_eq_some_iff.mp h
      refine rn_callV [] rfl rfl ⟨rfl, rfl⟩ hu4 rfl rfl (e174 d hy1) ?_
      refine rn_steps 1 11 [.ref l0, .int l1] [.ref l0] rfl ?_
      obtain ⟨u3, hu3, h⟩ := Option.bind_eq_some_iff.mp h
      obtain ⟨y2, hy2, h⟩ := Option.bind_eq_some_iff.mp h
      refine rn_callV [] rfl rfl ⟨rfl, rfl⟩ hu3 rfl rfl (e168 (d + 9) hy2) ?_
      refine rn_steps 2 2 [.ref l0, .int y2.1] [] rfl ?_
      exact ih _ _ _ _ h
/-- LastAskedModel.readAll()V -/
noncomputable def f173 (l0 : Nat) (σ : xM) : Option xM :=
  f173_2 1100 l0 1 σ
set_option maxRecDepth 20000 in
set_option maxHeartbeats 1000000 in
theorem e173 (d : Nat) {l0 : Nat} {σ : xM} {y : xM} (h : f173 l0 σ = some y) : Rn (d + 12) 173 0 [.ref l0, .retAddr 0] [] σ (none, y) := by
  unfold f173 at h
  refine rn_steps 2 2 [.ref l0, .int 1] [] rfl ?_
  exact e173_2 d 1100 _ _ _ _ h
noncomputable def f182_117 (l0 : Nat) (σ : xM) : Option (Int32 × xM) :=
  (gI σ l0 9 6).bind fun v1 =>
  some (v1, σ)
set_option maxRecDepth 20000 in
set_option maxHeartbeats 1000000 in
theorem e182_117 (d : Nat) (l0 : Nat) (x1 x2 x3 x4 x5 x6 x7 : Value) (σ : xM) (y : Int32 × xM) (h : f182_117 l0 σ = some y) : Rn (d + 0) 182 117 [.ref l0, x1, x2, x3, x4, x5, x6, x7] [] σ (some (.int y.1), y.2) := by
  unfold f182_117 at h
  refine rn_steps 1 118 [.ref l0, x1, x2, x3, x4, x5, x6, x7] [.ref l0] rfl ?_
  obtain ⟨v1, hv1, h⟩ := Option.bind_eq_some_iff.mp h
  refine rn_gI (c := 9) (f := 6) rfl rfl ⟨⟨rfl, rfl⟩, Or.inl rfl⟩ hv1 ?_
  refine rn_steps 0 121 [.ref l0, x1, x2, x3, x4, x5, x6, x7] [.int v1] rfl ?_
  cases h
  exact rn_ret rfl rfl rfl
noncomputable def f182_76 (K23 : Nat → Int32 → Int32 → Int32 → Int32 → Int32 → Int32 → xM → Option (Int32 × xM)) (l0 : Nat) (l1 : Int32) (l2 : Int32) (l3 : Int32) (l4 : Int32) (l5 : Int32) (l6 : Int32) (s0 : Int32) (σ : xM) : Option (Int32 × xM) :=
  (gR σ l0 9 5).bind fun r1 =>
  (gI σ l0 9 6).bind fun v2 =>
  (rI l6 4).bind fun v3 =>
  (tB σ r1 v2 ((s0 >>> ((24 - (8 * v3)) &&& 31)).toInt8.toInt32)).bind fun σ4 =>
  (gI σ4 l0 9 6).bind fun v5 =>
  (pI σ4 l0 9 6 (v5 + 1)).bind fun σ6 =>
  K23 l0 l1 l2 l3 l4 l5 (l6 + 1) σ6
set_option maxRecDepth 20000 in
set_option maxHeartbeats 1000000 in
theorem e182_76 (d : Nat) (K23 : Nat → Int32 → Int32 → Int32 → Int32 → Int32 → Int32 → xM → Option (Int32 × xM)) (hK23 : ∀ (l0 : Nat) (l1 : Int32) (l2 : Int32) (l3 : Int32) (l4 : Int32) (l5 : Int32) (l6 : Int32) (x7 : Value) (σ : xM) (y : Int32 × xM), K23 l0 l1 l2 l3 l4 l5 l6 σ = some y → Rn (d + 0) 182 23 [.ref l0, .int l1, .int l2, .int l3, .int l4, .int l5, .int l6, x7] [] σ (some (.int y.1), y.2)) (l0 : Nat) (l1 : Int32) (l2 : Int32) (l3 : Int32) (l4 : Int32) (l5 : Int32) (l6 : Int32) (s0 : Int32) (x7 : Value) (σ : xM) (y : Int32 × xM) (h : f182_76 K23 l0 l1 l2 l3 l4 l5 l6 s0 σ = some y) : Rn (d + 0) 182 76 [.ref l0, .int l1, .int l2, .int l3, .int l4, .int l5, .int l6, x7] [.int s0] σ (some (.int y.1), y.2) := by
  unfold f182_76 at h
  refine rn_steps 2 79 [.ref l0, .int l1, .int l2, .int l3, .int l4, .int l5, .int l6, .int s0] [.ref l0] rfl ?_
  obtain ⟨r1, hr1, h⟩ := Option.bind_eq_some_iff.mp h
  refine rn_gR (c := 9) (f := 5) rfl rfl ⟨⟨rfl, rfl⟩, rfl⟩ hr1 ?_
  refine rn_steps 1 83 [.ref l0, .int l1, .int l2, .int l3, .int l4, .int l5, .int l6, .int s0] [.ref l0, .ref r1] rfl ?_
  obtain ⟨v2, hv2, h⟩ := Option.bind_eq_some_iff.mp h
  refine rn_gI (c := 9) (f := 6) rfl rfl ⟨⟨rfl, rfl⟩, Or.inl rfl⟩ hv2 ?_
  refine rn_steps 5 95 [.ref l0, .int l1, .int l2, .int l3, .int l4, .int l5, .int l6, .int s0] [.int 4, .int l6, .int 8, .int 24, .int s0, .int v2, .ref r1] rfl ?_
  obtain ⟨v3, hv3, h⟩ := Option.bind_eq_some_iff.mp h
  refine rn_rI rfl hv3 ?_
  refine rn_steps 4 100 [.ref l0, .int l1, .int l2, .int l3, .int l4, .int l5, .int l6, .int s0] [.int ((s0 >>> ((24 - (8 * v3)) &&& 31)).toInt8.toInt32), .int v2, .ref r1] rfl ?_
  obtain ⟨σ4, hσ4, h⟩ := Option.bind_eq_some_iff.mp h
  refine rn_tB rfl hσ4 ?_
  refine rn_steps 2 103 [.ref l0, .int l1, .int l2, .int l3, .int l4, .int l5, .int l6, .int s0] [.ref l0, .ref l0] rfl ?_
  obtain ⟨v5, hv5, h⟩ := Option.bind_eq_some_iff.mp h
  refine rn_gI (c := 9) (f := 6) rfl rfl ⟨⟨rfl, rfl⟩, Or.inl rfl⟩ hv5 ?_
  refine rn_steps 2 108 [.ref l0, .int l1, .int l2, .int l3, .int l4, .int l5, .int l6, .int s0] [.int (v5 + 1), .ref l0] rfl ?_
  obtain ⟨σ6, hσ6, h⟩ := Option.bind_eq_some_iff.mp h
  refine rn_pI (c := 9) (f := 6) rfl rfl ⟨⟨rfl, rfl⟩, rfl⟩ hσ6 ?_
  refine rn_steps 2 23 [.ref l0, .int l1, .int l2, .int l3, .int l4, .int l5, .int (l6 + 1), .int s0] [] rfl ?_
  exact hK23 _ _ _ _ _ _ _ _ _ _ h
noncomputable def f182_23 : Nat → Nat → Int32 → Int32 → Int32 → Int32 → Int32 → Int32 → xM → Option (Int32 × xM)
  | 0, _, _, _, _, _, _, _, _ => none
  | n + 1, l0, l1, l2, l3, l4, l5, l6, σ =>
    if 20 ≤ l6 then
    f182_117 l0 σ
    else
    if 4 ≤ l6 then
    if 8 ≤ l6 then
    if 12 ≤ l6 then
    if 16 ≤ l6 then
    f182_76 (f182_23 n) l0 l1 l2 l3 l4 l5 l6 l5 σ
    else
    f182_76 (f182_23 n) l0 l1 l2 l3 l4 l5 l6 l4 σ
    else
    f182_76 (f182_23 n) l0 l1 l2 l3 l4 l5 l6 l3 σ
    else
    f182_76 (f182_23 n) l0 l1 l2 l3 l4 l5 l6 l2 σ
    else
    f182_76 (f182_23 n) l0 l1 l2 l3 l4 l5 l6 l1 σ
set_option maxRecDepth 20000 in
set_option maxHeartbeats 1000000 in
theorem e182_23 (d : Nat) : ∀ (n : Nat) (l0 : Nat) (l1 : Int32) (l2 : Int32) (l3 : Int32) (l4 : Int32) (l5 : Int32) (l6 : Int32) (x7 : Value) (σ : xM) (y : Int32 × xM), f182_23 n l0 l1 l2 l3 l4 l5 l6 σ = some y → Rn (d + 0) 182 23 [.ref l0, .int l1, .int l2, .int l3, .int l4, .int l5, .int l6, x7] [] σ (some (.int y.1), y.2) := by
  intro n
  induction n with
  | zero => intro l0 l1 l2 l3 l4 l5 l6 x7 σ y h; cases h
  | succ n ih =>
    intro l0 l1 l2 l3 l4 l5 l6 x7 σ y h
    unfold f182_23 at h
    refine rn_steps 2 27 [.ref l0, .int l1, .int l2, .int l3, .int l4, .int l5, .int l6, x7] [.int 20, .int l6] rfl ?_
    refine rn_br (c := 20 ≤ l6) rfl rfl decide_eq_true_iff (fun hb => ?_) (fun hb => ?_)
    · rw [if_pos hb] at h
      refine rn_steps 0 117 [.ref l0, .int l1, .int l2, .int l3, .int l4, .int l5, .int l6, x7] [] rfl ?_
      exact e182_117 d _ _ _ _ _ _ _ _ _ _ h
    · rw [if_neg hb] at h
      refine rn_steps 2 33 [.ref l0, .int l1, .int l2, .int l3, .int l4, .int l5, .int l6, x7] [.int 4, .int l6] rfl ?_
      refine rn_br (c := 4 ≤ l6) rfl rfl decide_eq_true_iff (fun hb => ?_) (fun hb => ?_)
      · rw [if_pos hb] at h
        refine rn_steps 2 44 [.ref l0, .int l1, .int l2, .int l3, .int l4, .int l5, .int l6, x7] [.int 8, .int l6] rfl ?_
        refine rn_br (c := 8 ≤ l6) rfl rfl decide_eq_true_iff (fun hb => ?_) (fun hb => ?_)
        · rw [if_pos hb] at h
          refine rn_steps 2 55 [.ref l0, .int l1, .int l2, .int l3, .int l4, .int l5, .int l6, x7] [.int 12, .int l6] rfl ?_
          refine rn_br (c := 12 ≤ l6) rfl rfl decide_eq_true_iff (fun hb => ?_) (fun hb => ?_)
          · rw [if_pos hb] at h
            refine rn_steps 2 66 [.ref l0, .int l1, .int l2, .int l3, .int l4, .int l5, .int l6, x7] [.int 16, .int l6] rfl ?_
            refine rn_br (c := 16 ≤ l6) rfl rfl decide_eq_true_iff (fun hb => ?_) (fun hb => ?_)
            · rw [if_pos hb] at h
              refine rn_steps 1 76 [.ref l0, .int l1, .int l2, .int l3, .int l4, .int l5, .int l6, x7] [.int l5] rfl ?_
              exact e182_76 d _ ih _ _ _ _ _ _ _ _ _ _ _ h
            · rw [if_neg hb] at h
              refine rn_steps 2 76 [.ref l0, .int l1, .int l2, .int l3, .int l4, .int l5, .int l6, x7] [.int l4] rfl ?_
              exact e182_76 d _ ih _ _ _ _ _ _ _ _ _ _ _ h
          · rw [if_neg hb] at h
            refine rn_steps 2 76 [.ref l0, .int l1, .int l2, .int l3, .int l4, .int l5, .int l6, x7] [.int l3] rfl ?_
            exact e182_76 d _ ih _ _ _ _ _ _ _ _ _ _ _ h
        · rw [if_neg hb] at h
          refine rn_steps 2 76 [.ref l0, .int l1, .int l2, .int l3, .int l4, .int l5, .int l6, x7] [.int l2] rfl ?_
          exact e182_76 d _ ih _ _ _ _ _ _ _ _ _ _ _ h
      · rw [if_neg hb] at h
        refine rn_steps 2 76 [.ref l0, .int l1, .int l2, .int l3, .int l4, .int l5, .int l6, x7] [.int l1] rfl ?_
        exact e182_76 d _ ih _ _ _ _ _ _ _ _ _ _ _ h
/-- LastAskedModel.feed(IIIII)I -/
noncomputable def f182 (l0 : Nat) (l1 : Int32) (l2 : Int32) (l3 : Int32) (l4 : Int32) (l5 : Int32) (σ : xM) : Option (Int32 × xM) :=
  (pI σ l0 9 0 0).bind fun σ1 =>
  (gI σ1 l0 9 6).bind fun v2 =>
  if (v2 + 20) ≤ 900 then
  f182_23 1100 l0 l1 l2 l3 l4 l5 0 σ1
  else
  some ((-1), σ1)
set_option maxRecDepth 20000 in
set_option maxHeartbeats 1000000 in
theorem e182 (d : Nat) {l0 : Nat} {l1 : Int32} {l2 : Int32} {l3 : Int32} {l4 : Int32} {l5 : Int32} {σ : xM} {y : Int32 × xM} (h : f182 l0 l1 l2 l3 l4 l5 σ = some y) : Rn (d + 0) 182 0 [.ref l0, .int l1, .int l2, .int l3, .int l4, .int l5, .retAddr 0, .retAddr 0] [] σ (some (.int y.1), y.2) := by
  unfold f182 at h
  refine rn_steps 2 2 [.ref l0, .int l1, .int l2, .int l3, .int l4, .int l5, .retAddr 0, .retAddr 0] [.int 0, .ref l0] rfl ?_
  obtain ⟨σ1, hσ1, h⟩ := Option.bind_eq_some_iff.mp h
  refine rn_pI (c := 9) (f := 0) rfl rfl ⟨⟨rfl, rfl⟩, rfl⟩ hσ1 ?_
  refine rn_steps 1 6 [.ref l0, .int l1, .int l2, .int l3, .int l4, .int l5, .retAddr 0, .retAddr 0] [.ref l0] rfl ?_
  obtain ⟨v2, hv2, h⟩ := Option.bind_eq_some_iff.mp h
  refine rn_gI (c := 9) (f := 6) rfl rfl ⟨⟨rfl, rfl⟩, Or.inl rfl⟩ hv2 ?_
  refine rn_steps 3 15 [.ref l0, .int l1, .int l2, .int l3, .int l4, .int l5, .retAddr 0, .retAddr 0] [.int 900, .int (v2 + 20)] rfl ?_
  refine rn_br (c := (v2 + 20) ≤ 900) rfl rfl decide_eq_true_iff (fun hb => ?_) (fun hb => ?_)
  · rw [if_pos hb] at h
    refine rn_steps 2 23 [.ref l0, .int l1, .int l2, .int l3, .int l4, .int l5, .int 0, .retAddr 0] [] rfl ?_
    exact e182_23 d 1100 _ _ _ _ _ _ _ _ _ _ h
  · rw [if_neg hb] at h
    refine rn_steps 1 19 [.ref l0, .int l1, .int l2, .int l3, .int l4, .int l5, .retAddr 0, .retAddr 0] [.int (-1)] rfl ?_
    cases h
    exact rn_ret rfl rfl rfl
noncomputable def f189_82 (l0 : Nat) (σ : xM) : Option xM :=
  (gR σ l0 9 17).bind fun r1 =>
  (gR σ l0 9 3).bind fun r2 =>
  (gI σ r2 8 2).bind fun v3 =>
  (tI σ r1 42 ((1 <<< (v3 &&& 31)) - 1)).bind fun σ4 =>
  (gR σ4 l0 9 17).bind fun r5 =>
  (gR σ4 l0 9 3).bind fun r6 =>
  (gI σ4 r6 8 0).bind fun v7 =>
  (tI σ4 r5 44 v7).bind fun σ8 =>
  some σ8
set_option maxRecDepth 20000 in
set_option maxHeartbeats 1000000 in
theorem e189_82 (d : Nat) (l0 : Nat) (x1 : Value) (σ : xM) (y : xM) (h : f189_82 l0 σ = some y) : Rn (d + 0) 189 82 [.ref l0, x1] [] σ (none, y) := by
  unfold f189_82 at h
  refine rn_steps 1 83 [.ref l0, x1] [.ref l0] rfl ?_
  obtain ⟨r1, hr1, h⟩ := Option.bind_eq_some_iff.mp h
  refine rn_gR (c := 9) (f := 17) rfl rfl ⟨⟨rfl, rfl⟩, rfl⟩ hr1 ?_
  refine rn_steps 3 90 [.ref l0, x1] [.ref l0, .int 1, .int 42, .ref r1] rfl ?_
  obtain ⟨r2, hr2, h⟩ := Option.bind_eq_some_iff.mp h
  refine rn_gR (c := 9) (f := 3) rfl rfl ⟨⟨rfl, rfl⟩, rfl⟩ hr2 ?_
  refine rn_steps 0 93 [.ref l0, x1] [.ref r2, .int 1, .int 42, .ref r1] rfl ?_
  obtain ⟨v3, hv3, h⟩ := Option.bind_eq_some_iff.mp h
  refine rn_gI (c := 8) (f := 2) rfl rfl ⟨⟨rfl, rfl⟩, Or.inl rfl⟩ hv3 ?_
  refine rn_steps 3 99 [.ref l0, x1] [.int ((1 <<< (v3 &&& 31)) - 1), .int 42, .ref r1] rfl ?_
  obtain ⟨σ4, hσ4, h⟩ := Option.bind_eq_some_iff.mp h
  refine rn_tI rfl hσ4 ?_
  refine rn_steps 1 101 [.ref l0, x1] [.ref l0] rfl ?_
  obtain ⟨r5, hr5, h⟩ := Option.bind_eq_some_iff.mp h
  refine rn_gR (c := 9) (f := 17) rfl rfl ⟨⟨rfl, rfl⟩, rfl⟩ hr5 ?_
  refine rn_steps 2 107 [.ref l0, x1] [.ref l0, .int 44, .ref r5] rfl ?_
  obtain ⟨r6, hr6, h⟩ := Option.bind_eq_some_iff.mp h
  refine rn_gR (c := 9) (f := 3) rfl rfl ⟨⟨rfl, rfl⟩, rfl⟩ hr6 ?_
  refine rn_steps 0 110 [.ref l0, x1] [.ref r6, .int 44, .ref r5] rfl ?_
  obtain ⟨v7, hv7, h⟩ := Option.bind_eq_some_iff.mp h
  refine rn_gI (c := 8) (f := 0) rfl rfl ⟨⟨rfl, rfl⟩, Or.inl rfl⟩ hv7 ?_
  refine rn_steps 0 113 [.ref l0, x1] [.int v7, .int 44, .ref r5] rfl ?_
  obtain ⟨σ8, hσ8, h⟩ := Option.bind_eq_some_iff.mp h
  refine rn_tI rfl hσ8 ?_
  refine rn_steps 0 114 [.ref l0, x1] [] rfl ?_
  cases h
  exact rn_ret rfl rfl rfl
noncomputable def f189_52 : Nat → Nat → Int32 → xM → Option xM
  | 0, _, _, _ => none
  | n + 1, l0, l1, σ =>
    if 36 ≤ l1 then
    f189_82 l0 σ
    else
    (gR σ l0 9 17).bind fun r1 =>
    (gR σ l0 9 3).bind fun r2 =>
    (gR σ r2 8 12).bind fun r3 =>
    (aI σ r3 l1).bind fun v4 =>
    (tI σ r1 (6 + l1) v4).bind fun σ5 =>
    (f189_52 n) l0 (l1 + 1) σ5
set_option maxRecDepth 20000 in
set_option maxHeartbeats 1000000 in
theorem e189_52 (d : Nat) : ∀ (n : Nat) (l0 : Nat) (l1 : Int32) (σ : xM) (y : xM), f189_52 n l0 l1 σ = some y → Rn (d + 0) 189 52 [.ref l0, .int l1] [] σ (none, y) := by
  intro n
  induction n with
  | zero => intro l0 l1 σ y h; cases h
  | succ n ih =>
    intro l0 l1 σ y h
    unfold f189_52 at h
    refine rn_steps 2 55 [.ref l0, .int l1] [.int 36, .int l1] rfl ?_
    refine rn_br (c := 36 ≤ l1) rfl rfl decide_eq_true_iff (fun hb => ?_) (fun hb => ?_)
    · rw [if_pos hb] at h
      refine rn_steps 0 82 [.ref l0, .int l1] [] rfl ?_
      exact e189_82 d _ _ _ _ h
    · rw [if_neg hb] at h
      refine rn_steps 1 59 [.ref l0, .int l1] [.ref l0] rfl ?_
      obtain ⟨r1, hr1, h⟩ := Option.bind_eq_some_iff.mp h
      refine rn_gR (c := 9) (f := 17) rfl rfl ⟨⟨rfl, rfl⟩, rfl⟩ hr1 ?_
      refine rn_steps 4 67 [.ref l0, .int l1] [.ref l0, .int (6 + l1), .ref r1] rfl ?_
      obtain ⟨r2, hr2, h⟩ := Option.bind_eq_some_iff.mp h
      refine rn_gR (c := 9) (f := 3) rfl rfl ⟨⟨rfl, rfl⟩, rfl⟩ hr2 ?_
      refine rn_steps 0 70 [.ref l0, .int l1] [.ref r2, .int (6 + l1), .ref r1] rfl ?_
      obtain ⟨r3, hr3, h⟩ := Option.bind_eq_some_iff.mp h
      refine rn_gR (c := 8) (f := 12) rfl rfl ⟨⟨rfl, rfl⟩, rfl⟩ hr3 ?_
      refine rn_steps 1 74 [.ref l0, .int l1] [.int l1, .ref r3, .int (6 + l1), .ref r1] rfl ?_
      obtain ⟨v4, hv4, h⟩ := Option.bind_eq_some_iff.mp h
      refine rn_aI rfl hv4 ?_
      refine rn_steps 0 75 [.ref l0, .int l1] [.int v4, .int (6 + l1), .ref r1] rfl ?_
      obtain ⟨σ5, hσ5, h⟩ := Option.bind_eq_some_iff.mp h
      refine rn_tI rfl hσ5 ?_
      refine rn_steps 2 52 [.ref l0, .int (l1 + 1)] [] rfl ?_
      exact ih _ _ _ _ h
noncomputable def f189_50 (l0 : Nat) (σ : xM) : Option xM :=
  f189_52 1100 l0 0 σ
set_option maxRecDepth 20000 in
set_option maxHeartbeats 1000000 in
theorem e189_50 (d : Nat) (l0 : Nat) (x1 : Value) (σ : xM) (y : xM) (h : f189_50 l0 σ = some y) : Rn (d + 0) 189 50 [.ref l0, x1] [] σ (none, y) := by
  unfold f189_50 at h
  refine rn_steps 2 52 [.ref l0, .int 0] [] rfl ?_
  exact e189_52 d 1100 _ _ _ _ h
noncomputable def f189_23 : Nat → Nat → Int32 → xM → Option xM
  | 0, _, _, _ => none
  | n + 1, l0, l1, σ =>
    if 6 ≤ l1 then
    f189_50 l0 σ
    else
    (gR σ l0 9 17).bind fun r1 =>
    (gR σ l0 9 3).bind fun r2 =>
    (gR σ r2 8 8).bind fun r3 =>
    (aI σ r3 l1).bind fun v4 =>
    (tI σ r1 l1 v4).bind fun σ5 =>
    (f189_23 n) l0 (l1 + 1) σ5
set_option maxRecDepth 20000 in
set_option maxHeartbeats 1000000 in
theorem e189_23 (d : Nat) : ∀ (n : Nat) (l0 : Nat) (l1 : Int32) (σ : xM) (y : xM), f189_23 n l0 l1 σ = some y → Rn (d + 0) 189 23 [.ref l0, .int l1] [] σ (none, y) := by
  intro n
  induction n with
  | zero => intro l0 l1 σ y h; cases h
  | succ n ih =>
    intro l0 l1 σ y h
    unfold f189_23 at h
    refine rn_steps 2 26 [.ref l0, .int l1] [.int 6, .int l1] rfl ?_
    refine rn_br (c := 6 ≤ l1) rfl rfl decide_eq_true_iff (fun hb => ?_) (fun hb => ?_)
    · rw [if_pos hb] at h
      refine rn_steps 0 50 [.ref l0, .int l1] [] rfl ?_
      exact e189_50 d _ _ _ _ h
    · rw [if_neg hb] at h
      refine rn_steps 1 30 [.ref l0, .int l1] [.ref l0] rfl ?_
      obtain ⟨r1, hr1, h⟩ := Option.bind_eq_some_iff.mp h
      refine rn_gR (c := 9) (f := 17) rfl rfl ⟨⟨rfl, rfl⟩, rfl⟩ hr1 ?_
      refine rn_steps 2 35 [.ref l0, .int l1] [.ref l0, .int l1, .ref r1] rfl ?_
      obtain ⟨r2, hr2, h⟩ := Option.bind_eq_some_iff.mp h
      refine rn_gR (c := 9) (f := 3) rfl rfl ⟨⟨rfl, rfl⟩, rfl⟩ hr2 ?_
      refine rn_steps 0 38 [.ref l0, .int l1] [.ref r2, .int l1, .ref r1] rfl ?_
      obtain ⟨r3, hr3, h⟩ := Option.bind_eq_some_iff.mp h
      refine rn_gR (c := 8) (f := 8) rfl rfl ⟨⟨rfl, rfl⟩, rfl⟩ hr3 ?_
      refine rn_steps 1 42 [.ref l0, .int l1] [.int l1, .ref r3, .int l1, .ref r1] rfl ?_
      obtain ⟨v4, hv4, h⟩ := Option.bind_eq_some_iff.mp h
      refine rn_aI rfl hv4 ?_
      refine rn_steps 0 43 [.ref l0, .int l1] [.int v4, .int l1, .ref r1] rfl ?_
      obtain ⟨σ5, hσ5, h⟩ := Option.bind_eq_some_iff.mp h
      refine rn_tI rfl hσ5 ?_
      refine rn_steps 2 23 [.ref l0, .int (l1 + 1)] [] rfl ?_
      exact ih _ _ _ _ h
noncomputable def f189_21 (l0 : Nat) (σ : xM) : Option xM :=
  f189_23 1100 l0 0 σ
set_option maxRecDepth 20000 in
set_option maxHeartbeats 1000000 in
theorem e189_21 (d : Nat) (l0 : Nat) (x1 : Value) (σ : xM) (y : xM) (h : f189_21 l0 σ = some y) : Rn (d + 0) 189 21 [.ref l0, x1] [] σ (none, y) := by
  unfold f189_21 at h
  refine rn_steps 2 23 [.ref l0, .int 0] [] rfl ?_
  exact e189_23 d 1100 _ _ _ _ h
noncomputable def f189_2 : Nat → Nat → Int32 → xM → Option xM
  | 0, _, _, _ => none
  | n + 1, l0, l1, σ =>
    if 47 ≤ l1 then
    f189_21 l0 σ
    else
    (gR σ l0 9 17).bind fun r1 =>
    (tI σ r1 l1 0).bind fun σ2 =>
    (f189_2 n) l0 (l1 + 1) σ2
set_option maxRecDepth 20000 in
set_option maxHeartbeats 1000000 in
theorem e189_2 (d : Nat) : ∀ (n : Nat) (l0 : Nat) (l1 : Int32) (σ : xM) (y : xM), f189_2 n l0 l1 σ = some y → Rn (d + 0) 189 2 [.ref l0, .int l1] [] σ (none, y) := by
  intro n
  induction n with
  | zero => intro l0 l1 σ y h; cases h
  | succ n ih =>
    intro l0 l1 σ y h
    unfold f189_2 at h
    refine rn_steps 2 5 [.ref l0, .int l1] [.int 47, .int l1] rfl ?_
    refine rn_br (c := 47 ≤ l1) rfl rfl decide_eq_true_iff (fun hb => ?_) (fun hb => ?_)
    · rw [if_pos hb] at h
      refine rn_steps 0 21 [.ref l0, .int l1] [] rfl ?_
      exact e189_21 d _ _ _ _ h
    · rw [if_neg hb] at h
      refine rn_steps 1 9 [.ref l0, .int l1] [.ref l0] rfl ?_
      obtain ⟨r1, hr1, h⟩ := Option.bind_eq_some_iff.mp h
      refine rn_gR (c := 9) (f := 17) rfl rfl ⟨⟨rfl, rfl⟩, rfl⟩ hr1 ?_
      refine rn_steps 2 14 [.ref l0, .int l1] [.int 0, .int l1, .ref r1] rfl ?_
      obtain ⟨σ2, hσ2, h⟩ := Option.bind_eq_some_iff.mp h
      refine rn_tI rfl hσ2 ?_
      refine rn_steps 2 2 [.ref l0, .int (l1 + 1)] [] rfl ?_
      exact ih _ _ _ _ h
/-- LastAskedModel.asTold()V -/
noncomputable def f189 (l0 : Nat) (σ : xM) : Option xM :=
  f189_2 1100 l0 0 σ
set_option maxRecDepth 20000 in
set_option maxHeartbeats 1000000 in
theorem e189 (d : Nat) {l0 : Nat} {σ : xM} {y : xM} (h : f189 l0 σ = some y) : Rn (d + 0) 189 0 [.ref l0, .retAddr 0] [] σ (none, y) := by
  unfold f189 at h
  refine rn_steps 2 2 [.ref l0, .int 0] [] rfl ?_
  exact e189_2 d 1100 _ _ _ _ h
noncomputable def f183_127 (l0 : Nat) (σ : xM) : Option (Int32 × xM) :=
  (pI σ l0 9 20 0).bind fun σ1 =>
  (pI σ1 l0 9 21 0).bind fun σ2 =>
  (gR σ2 l0 9 3).bind fun r3 =>
  (gI σ2 r3 8 2).bind fun v4 =>
  (cO σ2 l0 9).bind fun u6 =>
  (f154 l0 v4 σ2).bind fun y5 =>
  some (y5.1, y5.2)
set_option maxRecDepth 20000 in
set_option maxHeartbeats 1000000 in
theorem e183_127 (d : Nat) (l0 : Nat) (x1 x2 : Value) (σ : xM) (y : Int32 × xM) (h : f183_127 l0 σ = some y) : Rn (d + 13) 183 127 [.ref l0, x1, x2] [] σ (some (.int y.1), y.2) := by
  unfold f183_127 at h
  refine rn_steps 2 129 [.ref l0, x1, x2] [.int 0, .ref l0] rfl ?_
  obtain ⟨σ1, hσ1, h⟩ := Option.bind_eq_some_iff.mp h
  refine rn_pI (c := 9) (f := 20) rfl rfl ⟨⟨rfl, rfl⟩, rfl⟩ hσ1 ?_
  refine rn_steps 2 134 [.ref l0, x1, x2] [.int 0, .ref l0] rfl ?_
  obtain ⟨σ2, hσ2, h⟩ := Option.bind_eq_some_iff.mp h
  refine rn_pI (c := 9) (f := 21) rfl rfl ⟨⟨rfl, rfl⟩, rfl⟩ hσ2 ?_
  refine rn_steps 2 139 [.ref l0, x1, x2] [.ref l0, .ref l0] rfl ?_
  obtain ⟨r3, hr3, h⟩ := Option.bind_eq_some_iff.mp h
  refine rn_gR (c := 9) (f := 3) rfl rfl ⟨⟨rfl, rfl⟩, rfl⟩ hr3 ?_
  refine rn_steps 0 142 [.ref l0, x1, x2] [.ref r3, .ref l0] rfl ?_
  obtain ⟨v4, hv4, h⟩ := Option.bind_eq_some_iff.mp h
  refine rn_gI (c := 8) (f := 2) rfl rfl ⟨⟨rfl, rfl⟩, Or.inl rfl⟩ hv4 ?_
  refine rn_steps 0 145 [.ref l0, x1, x2] [.int v4, .ref l0] rfl ?_
  obtain ⟨u6, hu6, h⟩ := Option.bind_eq_some_iff.mp h
  obtain ⟨y5, hy5, h⟩ := Option.bind_eq_some_iff.mp h
  refine rn_callV [.int v4] rfl rfl ⟨rfl, rfl⟩ hu6 rfl rfl (e154 (d + 12) hy5) ?_
  refine rn_steps 0 148 [.ref l0, x1, x2] [.int y5.1] rfl ?_
  cases h
  exact rn_ret rfl rfl rfl
noncomputable def f183_103 : Nat → Nat → Int32 → xM → Option (Int32 × xM)
  | 0, _, _, _ => none
  | n + 1, l0, l2, σ =>
    if 47 ≤ l2 then
    f183_127 l0 σ
    else
    (gR σ l0 9 16).bind fun r1 =>
    (gR σ l0 9 17).bind fun r2 =>
    (aI σ r2 l2).bind fun v3 =>
    (tI σ r1 l2 v3).bind fun σ4 =>
    (f183_103 n) l0 (l2 + 1) σ4
set_option maxRecDepth 20000 in
set_option maxHeartbeats 1000000 in
theorem e183_103 (d : Nat) : ∀ (n : Nat) (l0 : Nat) (l2 : Int32) (x1 : Value) (σ : xM) (y : Int32 × xM), f183_103 n l0 l2 σ = some y → Rn (d + 13) 183 103 [.ref l0, x1, .int l2] [] σ (some (.int y.1), y.2) := by
  intro n
  induction n with
  | zero => intro l0 l2 x1 σ y h; cases h
  | succ n ih =>
    intro l0 l2 x1 σ y h
    unfold f183_103 at h
    refine rn_steps 2 106 [.ref l0, x1, .int l2] [.int 47, .int l2] rfl ?_
    refine rn_br (c := 47 ≤ l2) rfl rfl decide_eq_true_iff (fun hb => ?_) (fun hb => ?_)
    · rw [if_pos hb] at h
      refine rn_steps 0 127 [.ref l0, x1, .int l2] [] rfl ?_
      exact e183_127 d _ _ _ _ _ h
    · rw [if_neg hb] at h
      refine rn_steps 1 110 [.ref l0, x1, .int l2] [.ref l0] rfl ?_
      obtain ⟨r1, hr1, h⟩ := Option.bind_eq_some_iff.mp h
      refine rn_gR (c := 9) (f := 16) rfl rfl ⟨⟨rfl, rfl⟩, rfl⟩ hr1 ?_
      refine rn_steps 2 115 [.ref l0, x1, .int l2] [.ref l0, .int l2, .ref r1] rfl ?_
      obtain ⟨r2, hr2, h⟩ := Option.bind_eq_some_iff.mp h
      refine rn_gR (c := 9) (f := 17) rfl rfl ⟨⟨rfl, rfl⟩, rfl⟩ hr2 ?_
      refine rn_steps 1 119 [.ref l0, x1, .int l2] [.int l2, .ref r2, .int l2, .ref r1] rfl ?_
      obtain ⟨v3, hv3, h⟩ := Option.bind_eq_some_iff.mp h
      refine rn_aI rfl hv3 ?_
      refine rn_steps 0 120 [.ref l0, x1, .int l2] [.int v3, .int l2, .ref r1] rfl ?_
      obtain ⟨σ4, hσ4, h⟩ := Option.bind_eq_some_iff.mp h
      refine rn_tI rfl hσ4 ?_
      refine rn_steps 2 103 [.ref l0, x1, .int (l2 + 1)] [] rfl ?_
      exact ih _ _ _ _ _ h
noncomputable def f183_17 (l0 : Nat) (σ : xM) : Option (Int32 × xM) :=
  (cO σ l0 9).bind fun u2 =>
  (f151 l0 2 σ).bind fun y1 =>
  some (y1.1, y1.2)
set_option maxRecDepth 20000 in
set_option maxHeartbeats 1000000 in
theorem e183_17 (d : Nat) (l0 : Nat) (x1 x2 : Value) (σ : xM) (y : Int32 × xM) (h : f183_17 l0 σ = some y) : Rn (d + 13) 183 17 [.ref l0, x1, x2] [] σ (some (.int y.1), y.2) := by
  unfold f183_17 at h
  refine rn_steps 2 19 [.ref l0, x1, x2] [.int 2, .ref l0] rfl ?_
  obtain ⟨u2, hu2, h⟩ := Option.bind_eq_some_iff.mp h
  obtain ⟨y1, hy1, h⟩ := Option.bind_eq_some_iff.mp h
  refine rn_callV [.int 2] rfl rfl ⟨rfl, rfl⟩ hu2 rfl rfl (e151 (d + 12) hy1) ?_
  refine rn_steps 0 22 [.ref l0, x1, x2] [.int y1.1] rfl ?_
  cases h
  exact rn_ret rfl rfl rfl
/-- LastAskedModel.city(I)I -/
noncomputable def f183 (l0 : Nat) (l1 : Int32) (σ : xM) : Option (Int32 × xM) :=
  (pI σ l0 9 0 0).bind fun σ1 =>
  if l1 < 0 then
  f183_17 l0 σ1
  else
  (gI σ1 l0 9 6).bind fun v2 =>
  if l1 ≤ v2 then
  (pI σ1 l0 9 7 l1).bind fun σ3 =>
  (pI σ3 l0 9 6 0).bind fun σ4 =>
  (pI σ4 l0 9 8 0).bind fun σ5 =>
  (pI σ5 l0 9 12 0).bind fun σ6 =>
  (nO σ6 8).bind fun σ7 =>
  (f146 (mN σ6) σ7).bind fun y8 =>
  (pR y8 l0 9 4 (mN σ6)).bind fun σ9 =>
  (pI σ9 l0 9 9 0).bind fun σ10 =>
  (cO σ10 l0 9).bind fun u22 =>
  (f165 l0 σ10).bind fun y11 =>
  (cO y11 l0 9).bind fun u21 =>
  (f173 l0 y11).bind fun y12 =>
  (gI y12 l0 9 12).bind fun v13 =>
  if v13 ≤ 0 then
  (gR y12 l0 9 4).bind fun r14 =>
  (pR y12 l0 9 3 r14).bind fun σ15 =>
  (cO σ15 l0 9).bind fun u17 =>
  (f189 l0 σ15).bind fun y16 =>
  f183_103 1100 l0 0 y16
  else
  (pI y12 l0 9 1 4).bind fun σ18 =>
  (gI σ18 l0 9 13).bind fun v19 =>
  (pI σ18 l0 9 2 v19).bind fun σ20 =>
  some ((-1), σ20)
  else
  f183_17 l0 σ1
set_option maxRecDepth 20000 in
set_option maxHeartbeats 1000000 in
theorem e183 (d : Nat) {l0 : Nat} {l1 : Int32} {σ : xM} {y : Int32 × xM} (h : f183 l0 l1 σ = some y) : Rn (d + 13) 183 0 [.ref l0, .int l1, .retAddr 0] [] σ (some (.int y.1), y.2) := by
  unfold f183 at h
  refine rn_steps 2 2 [.ref l0, .int l1, .retAddr 0] [.int 0, .ref l0] rfl ?_
  obtain ⟨σ1, hσ1, h⟩ := Option.bind_eq_some_iff.mp h
  refine rn_pI (c := 9) (f := 0) rfl rfl ⟨⟨rfl, rfl⟩, rfl⟩ hσ1 ?_
  refine rn_steps 1 6 [.ref l0, .int l1, .retAddr 0] [.int l1] rfl ?_
  refine rn_br (c := l1 < 0) rfl rfl decide_eq_true_iff (fun hb => ?_) (fun hb => ?_)
  · rw [if_pos hb] at h
    refine rn_steps 0 17 [.ref l0, .int l1, .retAddr 0] [] rfl ?_
    exact e183_17 d _ _ _ _ _ h
  · rw [if_neg hb] at h
    refine rn_steps 2 11 [.ref l0, .int l1, .retAddr 0] [.ref l0, .int l1] rfl ?_
    obtain ⟨v2, hv2, h⟩ := Option.bind_eq_some_iff.mp h
    refine rn_gI (c := 9) (f := 6) rfl rfl ⟨⟨rfl, rfl⟩, Or.inl rfl⟩ hv2 ?_
    refine rn_steps 0 14 [.ref l0, .int l1, .retAddr 0] [.int v2, .int l1] rfl ?_
    refine rn_br (c := l1 ≤ v2) rfl rfl decide_eq_true_iff (fun hb => ?_) (fun hb => ?_)
    · rw [if_pos hb] at h
      refine rn_steps 2 25 [.ref l0, .int l1, .retAddr 0] [.int l1, .ref l0] rfl ?_
      obtain ⟨σ3, hσ3, h⟩ := Option.bind_eq_some_iff.mp h
      refine rn_pI (c := 9) (f := 7) rfl rfl ⟨⟨rfl, rfl⟩, rfl⟩ hσ3 ?_
      refine rn_steps 2 30 [.ref l0, .int l1, .retAddr 0] [.int 0, .ref l0] rfl ?_
      obtain ⟨σ4, hσ4, h⟩ := Option.bind_eq_some_iff.mp h
      refine rn_pI (c := 9) (f := 6) rfl rfl ⟨⟨rfl, rfl⟩, rfl⟩ hσ4 ?_
      refine rn_steps 2 35 [.ref l0, .int l1, .retAddr 0] [.int 0, .ref l0] rfl ?_
      obtain ⟨σ5, hσ5, h⟩ := Option.bind_eq_some_iff.mp h
      refine rn_pI (c := 9) (f := 8) rfl rfl ⟨⟨rfl, rfl⟩, rfl⟩ hσ5 ?_
      refine rn_steps 2 40 [.ref l0, .int l1, .retAddr 0] [.int 0, .ref l0] rfl ?_
      obtain ⟨σ6, hσ6, h⟩ := Option.bind_eq_some_iff.mp h
      refine rn_pI (c := 9) (f := 12) rfl rfl ⟨⟨rfl, rfl⟩, rfl⟩ hσ6 ?_
      refine rn_steps 1 44 [.ref l0, .int l1, .retAddr 0] [.ref l0] rfl ?_
      obtain ⟨σ7, hσ7, h⟩ := Option.bind_eq_some_iff.mp h
      refine rn_nO rfl hσ7 ?_
      refine rn_steps 1 48 [.ref l0, .int l1, .retAddr 0] [.ref (mN σ6), .ref (mN σ6), .ref l0] rfl ?_
      obtain ⟨y8, hy8, h⟩ := Option.bind_eq_some_iff.mp h
      refine rn_callI [] rfl rfl rfl rfl rfl rfl (e146 (d + 11) hy8) ?_
      refine rn_steps 0 51 [.ref l0, .int l1, .retAddr 0] [.ref (mN σ6), .ref l0] rfl ?_
      obtain ⟨σ9, hσ9, h⟩ := Option.bind_eq_some_iff.mp h
      refine rn_pR (c := 9) (f := 4) rfl rfl ⟨⟨rfl, rfl⟩, rfl⟩ hσ9 ?_
      refine rn_steps 2 56 [.ref l0, .int l1, .retAddr 0] [.int 0, .ref l0] rfl ?_
      obtain ⟨σ10, hσ10, h⟩ := Option.bind_eq_some_iff.mp h
      refine rn_pI (c := 9) (f := 9) rfl rfl ⟨⟨rfl, rfl⟩, rfl⟩ hσ10 ?_
      refine rn_steps 1 60 [.ref l0, .int l1, .retAddr 0] [.ref l0] rfl ?_
      obtain ⟨u22, hu22, h⟩ := Option.bind_eq_some_iff.mp h
      obtain ⟨y11, hy11, h⟩ := Option.bind_eq_some_iff.mp h
      refine rn_callV [] rfl rfl ⟨rfl, rfl⟩ hu22 rfl rfl (e165 (d + 11) hy11) ?_
      refine rn_steps 1 64 [.ref l0, .int l1, .retAddr 0] [.ref l0] rfl ?_
      obtain ⟨u21, hu21, h⟩ := Option.bind_eq_some_iff.mp h
      obtain ⟨y12, hy12, h⟩ := Option.bind_eq_some_iff.mp h
      refine rn_callV [] rfl rfl ⟨rfl, rfl⟩ hu21 rfl rfl (e173 d hy12) ?_
      refine rn_steps 1 68 [.ref l0, .int l1, .retAddr 0] [.ref l0] rfl ?_
      obtain ⟨v13, hv13, h⟩ := Option.bind_eq_some_iff.mp h
      refine rn_gI (c := 9) (f := 12) rfl rfl ⟨⟨rfl, rfl⟩, Or.inl rfl⟩ hv13 ?_
      refine rn_steps 0 71 [.ref l0, .int l1, .retAddr 0] [.int v13] rfl ?_
      refine rn_br (c := v13 ≤ 0) rfl rfl decide_eq_true_iff (fun hb => ?_) (fun hb => ?_)
      · rw [if_pos hb] at h
        refine rn_steps 2 91 [.ref l0, .int l1, .retAddr 0] [.ref l0, .ref l0] rfl ?_
        obtain ⟨r14, hr14, h⟩ := Option.bind_eq_some_iff.mp h
        refine rn_gR (c := 9) (f := 4) rfl rfl ⟨⟨rfl, rfl⟩, rfl⟩ hr14 ?_
        refine rn_steps 0 94 [.ref l0, .int l1, .retAddr 0] [.ref r14, .ref l0] rfl ?_
        obtain ⟨σ15, hσ15, h⟩ := Option.bind_eq_some_iff.mp h
        refine rn_pR (c := 9) (f := 3) rfl rfl ⟨⟨rfl, rfl⟩, rfl⟩ hσ15 ?_
        refine rn_steps 1 98 [.ref l0, .int l1, .retAddr 0] [.ref l0] rfl ?_
        obtain ⟨u17, hu17, h⟩ := Option.bind_eq_some_iff.mp h
        obtain ⟨y16, hy16, h⟩ := Option.bind_eq_some_iff.mp h
        refine rn_callV [] rfl rfl ⟨rfl, rfl⟩ hu17 rfl rfl (e189 (d + 12) hy16) ?_
        refine rn_steps 2 103 [.ref l0, .int l1, .int 0] [] rfl ?_
        exact e183_103 d 1100 _ _ _ _ _ h
      · rw [if_neg hb] at h
        refine rn_steps 2 76 [.ref l0, .int l1, .retAddr 0] [.int 4, .ref l0] rfl ?_
        obtain ⟨σ18, hσ18, h⟩ := Option.bind_eq_some_iff.mp h
        refine rn_pI (c := 9) (f := 1) rfl rfl ⟨⟨rfl, rfl⟩, rfl⟩ hσ18 ?_
        refine rn_steps 2 81 [.ref l0, .int l1, .retAddr 0] [.ref l0, .ref l0] rfl ?_
        obtain ⟨v19, hv19, h⟩ := Option.bind_eq_some_iff.mp h
        refine rn_gI (c := 9) (f := 13) rfl rfl ⟨⟨rfl, rfl⟩, Or.inl rfl⟩ hv19 ?_
        refine rn_steps 0 84 [.ref l0, .int l1, .retAddr 0] [.int v19, .ref l0] rfl ?_
        obtain ⟨σ20, hσ20, h⟩ := Option.bind_eq_some_iff.mp h
        refine rn_pI (c := 9) (f := 2) rfl rfl ⟨⟨rfl, rfl⟩, rfl⟩ hσ20 ?_
        refine rn_steps 1 88 [.ref l0, .int l1, .retAddr 0] [.int (-1)] rfl ?_
        cases h
        exact rn_ret rfl rfl rfl
    · rw [if_neg hb] at h
      refine rn_steps 0 17 [.ref l0, .int l1, .retAddr 0] [] rfl ?_
      exact e183_17 d _ _ _ _ _ h
/-- LastAskedModel.fault()I -/
noncomputable def f184 (l0 : Nat) (σ : xM) : Option (Int32 × xM) :=
  (pI σ l0 9 0 0).bind fun σ1 =>
  (gI σ1 l0 9 12).bind fun v2 =>
  some (v2, σ1)
set_option maxRecDepth 20000 in
set_option maxHeartbeats 1000000 in
theorem e184 (d : Nat) {l0 : Nat} {σ : xM} {y : Int32 × xM} (h : f184 l0 σ = some y) : Rn (d + 0) 184 0 [.ref l0] [] σ (some (.int y.1), y.2) := by
  unfold f184 at h
  refine rn_steps 2 2 [.ref l0] [.int 0, .ref l0] rfl ?_
  obtain ⟨σ1, hσ1, h⟩ := Option.bind_eq_some_iff.mp h
  refine rn_pI (c := 9) (f := 0) rfl rfl ⟨⟨rfl, rfl⟩, rfl⟩ hσ1 ?_
  refine rn_steps 1 6 [.ref l0] [.ref l0] rfl ?_
  obtain ⟨v2, hv2, h⟩ := Option.bind_eq_some_iff.mp h
  refine rn_gI (c := 9) (f := 12) rfl rfl ⟨⟨rfl, rfl⟩, Or.inl rfl⟩ hv2 ?_
  refine rn_steps 0 9 [.ref l0] [.int v2] rfl ?_
  cases h
  exact rn_ret rfl rfl rfl
/-- LastAskedModel.where()I -/
noncomputable def f185 (l0 : Nat) (σ : xM) : Option (Int32 × xM) :=
  (pI σ l0 9 0 0).bind fun σ1 =>
  (gI σ1 l0 9 2).bind fun v2 =>
  some (v2, σ1)
set_option maxRecDepth 20000 in
set_option maxHeartbeats 1000000 in
theorem e185 (d : Nat) {l0 : Nat} {σ : xM} {y : Int32 × xM} (h : f185 l0 σ = some y) : Rn (d + 0) 185 0 [.ref l0] [] σ (some (.int y.1), y.2) := by
  unfold f185 at h
  refine rn_steps 2 2 [.ref l0] [.int 0, .ref l0] rfl ?_
  obtain ⟨σ1, hσ1, h⟩ := Option.bind_eq_some_iff.mp h
  refine rn_pI (c := 9) (f := 0) rfl rfl ⟨⟨rfl, rfl⟩, rfl⟩ hσ1 ?_
  refine rn_steps 1 6 [.ref l0] [.ref l0] rfl ?_
  obtain ⟨v2, hv2, h⟩ := Option.bind_eq_some_iff.mp h
  refine rn_gI (c := 9) (f := 2) rfl rfl ⟨⟨rfl, rfl⟩, Or.inl rfl⟩ hv2 ?_
  refine rn_steps 0 9 [.ref l0] [.int v2] rfl ?_
  cases h
  exact rn_ret rfl rfl rfl
noncomputable def f186_27 (s0 : Int32) (σ : xM) : Option (Int32 × xM) :=
  rZ s0 σ
set_option maxRecDepth 20000 in
set_option maxHeartbeats 1000000 in
theorem e186_27 (d : Nat) (s0 : Int32) (x0 x1 : Value) (σ : xM) (y : Int32 × xM) (h : f186_27 s0 σ = some y) : Rn (d + 0) 186 27 [x0, x1] [.int s0] σ (some (.int y.1), y.2) := by
  unfold f186_27 at h
  exact rn_retZ rfl rfl h
noncomputable def f186_26 (σ : xM) : Option (Int32 × xM) :=
  f186_27 0 σ
set_option maxRecDepth 20000 in
set_option maxHeartbeats 1000000 in
theorem e186_26 (d : Nat) (x0 x1 : Value) (σ : xM) (y : Int32 × xM) (h : f186_26 σ = some y) : Rn (d + 0) 186 26 [x0, x1] [] σ (some (.int y.1), y.2) := by
  unfold f186_26 at h
  refine rn_steps 1 27 [x0, x1] [.int 0] rfl ?_
  exact e186_27 d _ _ _ _ _ h
/-- LastAskedModel.isPerson(I)Z -/
noncomputable def f186 (l0 : Nat) (l1 : Int32) (σ : xM) : Option (Int32 × xM) :=
  (gQ σ l0 9 3).bind fun q1 =>
  match q1 with
  | none =>
  f186_26 σ
  | some b2 =>
  if l1 < 0 then
  f186_26 σ
  else
  (gR σ l0 9 3).bind fun r3 =>
  (gI σ r3 8 2).bind fun v4 =>
  if v4 ≤ l1 then
  f186_26 σ
  else
  f186_27 1 σ
set_option maxRecDepth 20000 in
set_option maxHeartbeats 1000000 in
theorem e186 (d : Nat) {l0 : Nat} {l1 : Int32} {σ : xM} {y : Int32 × xM} (h : f186 l0 l1 σ = some y) : Rn (d + 0) 186 0 [.ref l0, .int l1] [] σ (some (.int y.1), y.2) := by
  unfold f186 at h
  refine rn_steps 1 1 [.ref l0, .int l1] [.ref l0] rfl ?_
  obtain ⟨q1, hq1, h⟩ := Option.bind_eq_some_iff.mp h
  refine rn_gQ (c := 9) (f := 3) rfl rfl ⟨⟨rfl, rfl⟩, rfl⟩ hq1 ?_
  cases q1 with
  | none =>
    dsimp only at h
    refine rn_steps 1 26 [.ref l0, .int l1] [] rfl ?_
    exact e186_26 d _ _ _ _ h
  | some b2 =>
    dsimp only at h
    refine rn_steps 2 8 [.ref l0, .int l1] [.int l1] rfl ?_
    refine rn_br (c := l1 < 0) rfl rfl decide_eq_true_iff (fun hb => ?_) (fun hb => ?_)
    · rw [if_pos hb] at h
      refine rn_steps 0 26 [.ref l0, .int l1] [] rfl ?_
      exact e186_26 d _ _ _ _ h
    · rw [if_neg hb] at h
      refine rn_steps 2 13 [.ref l0, .int l1] [.ref l0, .int l1] rfl ?_
      obtain ⟨r3, hr3, h⟩ := Option.bind_eq_some_iff.mp h
      refine rn_gR (c := 9) (f := 3) rfl rfl ⟨⟨rfl, rfl⟩, rfl⟩ hr3 ?_
      refine rn_steps 0 16 [.ref l0, .int l1] [.ref r3, .int l1] rfl ?_
      obtain ⟨v4, hv4, h⟩ := Option.bind_eq_some_iff.mp h
      refine rn_gI (c := 8) (f := 2) rfl rfl ⟨⟨rfl, rfl⟩, Or.inl rfl⟩ hv4 ?_
      refine rn_steps 0 19 [.ref l0, .int l1] [.int v4, .int l1] rfl ?_
      refine rn_br (c := v4 ≤ l1) rfl rfl decide_eq_true_iff (fun hb => ?_) (fun hb => ?_)
      · rw [if_pos hb] at h
        refine rn_steps 0 26 [.ref l0, .int l1] [] rfl ?_
        exact e186_26 d _ _ _ _ h
      · rw [if_neg hb] at h
        refine rn_steps 2 27 [.ref l0, .int l1] [.int 1] rfl ?_
        exact e186_27 d _ _ _ _ _ h
noncomputable def f187_26 (s0 : Int32) (σ : xM) : Option (Int32 × xM) :=
  rZ s0 σ
set_option maxRecDepth 20000 in
set_option maxHeartbeats 1000000 in
theorem e187_26 (d : Nat) (s0 : Int32) (x0 x1 x2 : Value) (σ : xM) (y : Int32 × xM) (h : f187_26 s0 σ = some y) : Rn (d + 1) 187 26 [x0, x1, x2] [.int s0] σ (some (.int y.1), y.2) := by
  unfold f187_26 at h
  exact rn_retZ rfl rfl h
noncomputable def f187_25 (σ : xM) : Option (Int32 × xM) :=
  f187_26 0 σ
set_option maxRecDepth 20000 in
set_option maxHeartbeats 1000000 in
theorem e187_25 (d : Nat) (x0 x1 x2 : Value) (σ : xM) (y : Int32 × xM) (h : f187_25 σ = some y) : Rn (d + 1) 187 25 [x0, x1, x2] [] σ (some (.int y.1), y.2) := by
  unfold f187_25 at h
  refine rn_steps 1 26 [x0, x1, x2] [.int 0] rfl ?_
  exact e187_26 d _ _ _ _ _ _ h
/-- LastAskedModel.areTwo(II)Z -/
noncomputable def f187 (l0 : Nat) (l1 : Int32) (l2 : Int32) (σ : xM) : Option (Int32 × xM) :=
  (cO σ l0 9).bind fun u4 =>
  (f186 l0 l1 σ).bind fun y1 =>
  if y1.1 = 0 then
  f187_25 y1.2
  else
  (cO y1.2 l0 9).bind fun u3 =>
  (f186 l0 l2 y1.2).bind fun y2 =>
  if y2.1 = 0 then
  f187_25 y2.2
  else
  if l1 = l2 then
  f187_25 y2.2
  else
  f187_26 1 y2.2
set_option maxRecDepth 20000 in
set_option maxHeartbeats 1000000 in
theorem e187 (d : Nat) {l0 : Nat} {l1 : Int32} {l2 : Int32} {σ : xM} {y : Int32 × xM} (h : f187 l0 l1 l2 σ = some y) : Rn (d + 1) 187 0 [.ref l0, .int l1, .int l2] [] σ (some (.int y.1), y.2) := by
  unfold f187 at h
  refine rn_steps 2 2 [.ref l0, .int l1, .int l2] [.int l1, .ref l0] rfl ?_
  obtain ⟨u4, hu4, h⟩ := Option.bind_eq_some_iff.mp h
  obtain ⟨y1, hy1, h⟩ := Option.bind_eq_some_iff.mp h
  refine rn_callV [.int l1] rfl rfl ⟨rfl, rfl⟩ hu4 rfl rfl (e186 d hy1) ?_
  refine rn_steps 0 5 [.ref l0, .int l1, .int l2] [.int y1.1] rfl ?_
  refine rn_br (c := y1.1 = 0) rfl rfl decide_eq_true_iff (fun hb => ?_) (fun hb => ?_)
  · rw [if_pos hb] at h
    refine rn_steps 0 25 [.ref l0, .int l1, .int l2] [] rfl ?_
    exact e187_25 d _ _ _ _ _ h
  · rw [if_neg hb] at h
    refine rn_steps 2 10 [.ref l0, .int l1, .int l2] [.int l2, .ref l0] rfl ?_
    obtain ⟨u3, hu3, h⟩ := Option.bind_eq_some_iff.mp h
    obtain ⟨y2, hy2, h⟩ := Option.bind_eq_some_iff.mp h
    refine rn_callV [.int l2] rfl rfl ⟨rfl, rfl⟩ hu3 rfl rfl (e186 d hy2) ?_
    refine rn_steps 0 13 [.ref l0, .int l1, .int l2] [.int y2.1] rfl ?_
    refine rn_br (c := y2.1 = 0) rfl rfl decide_eq_true_iff (fun hb => ?_) (fun hb => ?_)
    · rw [if_pos hb] at h
      refine rn_steps 0 25 [.ref l0, .int l1, .int l2] [] rfl ?_
      exact e187_25 d _ _ _ _ _ h
    · rw [if_neg hb] at h
      refine rn_steps 2 18 [.ref l0, .int l1, .int l2] [.int l2, .int l1] rfl ?_
      refine rn_br (c := l1 = l2) rfl rfl decide_eq_true_iff (fun hb => ?_) (fun hb => ?_)
      · rw [if_pos hb] at h
        refine rn_steps 0 25 [.ref l0, .int l1, .int l2] [] rfl ?_
        exact e187_25 d _ _ _ _ _ h
      · rw [if_neg hb] at h
        refine rn_steps 2 26 [.ref l0, .int l1, .int l2] [.int 1] rfl ?_
        exact e187_26 d _ _ _ _ _ _ h
noncomputable def f188_26 (σ : xM) : Option xM :=
  some σ
set_option maxRecDepth 20000 in
set_option maxHeartbeats 1000000 in
theorem e188_26 (d : Nat) (x0 x1 : Value) (σ : xM) (y : xM) (h : f188_26 σ = some y) : Rn (d + 0) 188 26 [x0, x1] [] σ (none, y) := by
  unfold f188_26 at h
  cases h
  exact rn_ret rfl rfl rfl
noncomputable def f188_2 : Nat → Nat → Int32 → xM → Option xM
  | 0, _, _, _ => none
  | n + 1, l0, l1, σ =>
    if 47 ≤ l1 then
    f188_26 σ
    else
    (gR σ l0 9 17).bind fun r1 =>
    (gR σ l0 9 16).bind fun r2 =>
    (aI σ r2 l1).bind fun v3 =>
    (tI σ r1 l1 v3).bind fun σ4 =>
    (f188_2 n) l0 (l1 + 1) σ4
set_option maxRecDepth 20000 in
set_option maxHeartbeats 1000000 in
theorem e188_2 (d : Nat) : ∀ (n : Nat) (l0 : Nat) (l1 : Int32) (σ : xM) (y : xM), f188_2 n l0 l1 σ = some y → Rn (d + 0) 188 2 [.ref l0, .int l1] [] σ (none, y) := by
  intro n
  induction n with
  | zero => intro l0 l1 σ y h; cases h
  | succ n ih =>
    intro l0 l1 σ y h
    unfold f188_2 at h
    refine rn_steps 2 5 [.ref l0, .int l1] [.int 47, .int l1] rfl ?_
    refine rn_br (c := 47 ≤ l1) rfl rfl decide_eq_true_iff (fun hb => ?_) (fun hb => ?_)
    · rw [if_pos hb] at h
      refine rn_steps 0 26 [.ref l0, .int l1] [] rfl ?_
      exact e188_26 d _ _ _ _ h
    · rw [if_neg hb] at h
      refine rn_steps 1 9 [.ref l0, .int l1] [.ref l0] rfl ?_
      obtain ⟨r1, hr1, h⟩ := Option.bind_eq_some_iff.mp h
      refine rn_gR (c := 9) (f := 17) rfl rfl ⟨⟨rfl, rfl⟩, rfl⟩ hr1 ?_
      refine rn_steps 2 14 [.ref l0, .int l1] [.ref l0, .int l1, .ref r1] rfl ?_
      obtain ⟨r2, hr2, h⟩ := Option.bind_eq_some_iff.mp h
      refine rn_gR (c := 9) (f := 16) rfl rfl ⟨⟨rfl, rfl⟩, rfl⟩ hr2 ?_
      refine rn_steps 1 18 [.ref l0, .int l1] [.int l1, .ref r2, .int l1, .ref r1] rfl ?_
      obtain ⟨v3, hv3, h⟩ := Option.bind_eq_some_iff.mp h
      refine rn_aI rfl hv3 ?_
      refine rn_steps 0 19 [.ref l0, .int l1] [.int v3, .int l1, .ref r1] rfl ?_
      obtain ⟨σ4, hσ4, h⟩ := Option.bind_eq_some_iff.mp h
      refine rn_tI rfl hσ4 ?_
      refine rn_steps 2 2 [.ref l0, .int (l1 + 1)] [] rfl ?_
      exact ih _ _ _ _ h
/-- LastAskedModel.works()V -/
noncomputable def f188 (l0 : Nat) (σ : xM) : Option xM :=
  f188_2 1100 l0 0 σ
set_option maxRecDepth 20000 in
set_option maxHeartbeats 1000000 in
theorem e188 (d : Nat) {l0 : Nat} {σ : xM} {y : xM} (h : f188 l0 σ = some y) : Rn (d + 0) 188 0 [.ref l0, .retAddr 0] [] σ (none, y) := by
  unfold f188 at h
  refine rn_steps 2 2 [.ref l0, .int 0] [] rfl ?_
  exact e188_2 d 1100 _ _ _ _ h
/-- LastAskedModel.isLiving(I)Z -/
noncomputable def f190 (l0 : Nat) (l1 : Int32) (σ : xM) : Option (Int32 × xM) :=
  (gR σ l0 9 17).bind fun r1 =>
  (aI σ r1 42).bind fun v2 =>
  (f157 v2 l1 σ).bind fun y3 =>
  rZ y3.1 y3.2
set_option maxRecDepth 20000 in
set_option maxHeartbeats 1000000 in
theorem e190 (d : Nat) {l0 : Nat} {l1 : Int32} {σ : xM} {y : Int32 × xM} (h : f190 l0 l1 σ = some y) : Rn (d + 1) 190 0 [.ref l0, .int l1] [] σ (some (.int y.1), y.2) := by
  unfold f190 at h
  refine rn_steps 1 1 [.ref l0, .int l1] [.ref l0] rfl ?_
  obtain ⟨r1, hr1, h⟩ := Option.bind_eq_some_iff.mp h
  refine rn_gR (c := 9) (f := 17) rfl rfl ⟨⟨rfl, rfl⟩, rfl⟩ hr1 ?_
  refine rn_steps 1 6 [.ref l0, .int l1] [.int 42, .ref r1] rfl ?_
  obtain ⟨v2, hv2, h⟩ := Option.bind_eq_some_iff.mp h
  refine rn_aI rfl hv2 ?_
  refine rn_steps 1 8 [.ref l0, .int l1] [.int l1, .int v2] rfl ?_
  obtain ⟨y3, hy3, h⟩ := Option.bind_eq_some_iff.mp h
  refine rn_callS [.int v2, .int l1] rfl rfl rfl ⟨rfl, rfl, rfl⟩ rfl rfl (e157 d hy3) ?_
  refine rn_steps 0 11 [.ref l0, .int l1] [.int y3.1] rfl ?_
  exact rn_retZ rfl rfl h
/-- LastAskedModel.asked(II)I -/
noncomputable def f191 (l0 : Nat) (l1 : Int32) (l2 : Int32) (σ : xM) : Option (Int32 × xM) :=
  (gR σ l0 9 17).bind fun r1 =>
  (aI σ r1 ((6 + (6 * l1)) + l2)).bind fun v2 =>
  some (v2, σ)
set_option maxRecDepth 20000 in
set_option maxHeartbeats 1000000 in
theorem e191 (d : Nat) {l0 : Nat} {l1 : Int32} {l2 : Int32} {σ : xM} {y : Int32 × xM} (h : f191 l0 l1 l2 σ = some y) : Rn (d + 0) 191 0 [.ref l0, .int l1, .int l2] [] σ (some (.int y.1), y.2) := by
  unfold f191 at h
  refine rn_steps 1 1 [.ref l0, .int l1, .int l2] [.ref l0] rfl ?_
  obtain ⟨r1, hr1, h⟩ := Option.bind_eq_some_iff.mp h
  refine rn_gR (c := 9) (f := 17) rfl rfl ⟨⟨rfl, rfl⟩, rfl⟩ hr1 ?_
  refine rn_steps 7 13 [.ref l0, .int l1, .int l2] [.int ((6 + (6 * l1)) + l2), .ref r1] rfl ?_
  obtain ⟨v2, hv2, h⟩ := Option.bind_eq_some_iff.mp h
  refine rn_aI rfl hv2 ?_
  refine rn_steps 0 14 [.ref l0, .int l1, .int l2] [.int v2] rfl ?_
  cases h
  exact rn_ret rfl rfl rfl
noncomputable def f192_71 (l2 : Int32) (σ : xM) : Option (Int32 × xM) :=
  some (l2, σ)
set_option maxRecDepth 20000 in
set_option maxHeartbeats 1000000 in
theorem e192_71 (d : Nat) (l2 : Int32) (x0 x1 x3 : Value) (σ : xM) (y : Int32 × xM) (h : f192_71 l2 σ = some y) : Rn (d + 2) 192 71 [x0, x1, .int l2, x3] [] σ (some (.int y.1), y.2) := by
  unfold f192_71 at h
  refine rn_steps 1 72 [x0, x1, .int l2, x3] [.int l2] rfl ?_
  cases h
  exact rn_ret rfl rfl rfl
noncomputable def f192_65 (K5 : Nat → Int32 → Int32 → Int32 → xM → Option (Int32 × xM)) (l0 : Nat) (l1 : Int32) (l2 : Int32) (l3 : Int32) (σ : xM) : Option (Int32 × xM) :=
  K5 l0 l1 l2 (l3 + 1) σ
set_option maxRecDepth 20000 in
set_option maxHeartbeats 1000000 in
theorem e192_65 (d : Nat) (K5 : Nat → Int32 → Int32 → Int32 → xM → Option (Int32 × xM)) (hK5 : ∀ (l0 : Nat) (l1 : Int32) (l2 : Int32) (l3 : Int32) (σ : xM) (y : Int32 × xM), K5 l0 l1 l2 l3 σ = some y → Rn (d + 2) 192 5 [.ref l0, .int l1, .int l2, .int l3] [] σ (some (.int y.1), y.2)) (l0 : Nat) (l1 : Int32) (l2 : Int32) (l3 : Int32) (σ : xM) (y : Int32 × xM) (h : f192_65 K5 l0 l1 l2 l3 σ = some y) : Rn (d + 2) 192 65 [.ref l0, .int l1, .int l2, .int l3] [] σ (some (.int y.1), y.2) := by
  unfold f192_65 at h
  refine rn_steps 2 5 [.ref l0, .int l1, .int l2, .int (l3 + 1)] [] rfl ?_
  exact hK5 _ _ _ _ _ _ h
noncomputable def f192_63 (K5 : Nat → Int32 → Int32 → Int32 → xM → Option (Int32 × xM)) (l0 : Nat) (l1 : Int32) (l3 : Int32) (σ : xM) : Option (Int32 × xM) :=
  f192_65 K5 l0 l1 l3 l3 σ
set_option maxRecDepth 20000 in
set_option maxHeartbeats 1000000 in
theorem e192_63 (d : Nat) (K5 : Nat → Int32 → Int32 → Int32 → xM → Option (Int32 × xM)) (hK5 : ∀ (l0 : Nat) (l1 : Int32) (l2 : Int32) (l3 : Int32) (σ : xM) (y : Int32 × xM), K5 l0 l1 l2 l3 σ = some y → Rn (d + 2) 192 5 [.ref l0, .int l1, .int l2, .int l3] [] σ (some (.int y.1), y.2)) (l0 : Nat) (l1 : Int32) (l3 : Int32) (x2 : Value) (σ : xM) (y : Int32 × xM) (h : f192_63 K5 l0 l1 l3 σ = some y) : Rn (d + 2) 192 63 [.ref l0, .int l1, x2, .int l3] [] σ (some (.int y.1), y.2) := by
  unfold f192_63 at h
  refine rn_steps 2 65 [.ref l0, .int l1, .int l3, .int l3] [] rfl ?_
  exact e192_65 d _ hK5 _ _ _ _ _ _ h
noncomputable def f192_5 : Nat → Nat → Int32 → Int32 → Int32 → xM → Option (Int32 × xM)
  | 0, _, _, _, _, _ => none
  | n + 1, l0, l1, l2, l3, σ =>
    (gR σ l0 9 3).bind fun r1 =>
    (gI σ r1 8 2).bind fun v2 =>
    if v2 ≤ l3 then
    f192_71 l2 σ
    else
    if l3 = l1 then
    f192_65 (f192_5 n) l0 l1 l2 l3 σ
    else
    (cO σ l0 9).bind fun u10 =>
    (f190 l0 l3 σ).bind fun y3 =>
    if y3.1 = 0 then
    f192_65 (f192_5 n) l0 l1 l2 l3 y3.2
    else
    (cO y3.2 l0 9).bind fun u9 =>
    (f191 l0 l3 l1 y3.2).bind fun y4 =>
    if y4.1 = (-1) then
    f192_65 (f192_5 n) l0 l1 l2 l3 y4.2
    else
    if l2 = (-2) then
    f192_63 (f192_5 n) l0 l1 l3 y4.2
    else
    (cO y4.2 l0 9).bind fun u8 =>
    (f191 l0 l3 l1 y4.2).bind fun y5 =>
    (cO y5.2 l0 9).bind fun u7 =>
    (f191 l0 l2 l1 y5.2).bind fun y6 =>
    if y5.1 ≤ y6.1 then
    f192_65 (f192_5 n) l0 l1 l2 l3 y6.2
    else
    f192_63 (f192_5 n) l0 l1 l3 y6.2
set_option maxRecDepth 20000 in
set_option maxHeartbeats 1000000 in
theorem e192_5 (d : Nat) : ∀ (n : Nat) (l0 : Nat) (l1 : Int32) (l2 : Int32) (l3 : Int32) (σ : xM) (y : Int32 × xM), f192_5 n l0 l1 l2 l3 σ = some y → Rn (d + 2) 192 5 [.ref l0, .int l1, .int l2, .int l3] [] σ (some (.int y.1), y.2) := by
  intro n
  induction n with
  | zero => intro l0 l1 l2 l3 σ y h; cases h
  | succ n ih =>
    intro l0 l1 l2 l3 σ y h
    unfold f192_5 at h
    refine rn_steps 2 7 [.ref l0, .int l1, .int l2, .int l3] [.ref l0, .int l3] rfl ?_
    obtain ⟨r1, hr1, h⟩ := Option.bind_eq_some_iff.mp h
    refine rn_gR (c := 9) (f := 3) rfl rfl ⟨⟨rfl, rfl⟩, rfl⟩ hr1 ?_
    refine rn_steps 0 10 [.ref l0, .int l1, .int l2, .int l3] [.ref r1, .int l3] rfl ?_
    obtain ⟨v2, hv2, h⟩ := Option.bind_eq_some_iff.mp h
    refine rn_gI (c := 8) (f := 2) rfl rfl ⟨⟨rfl, rfl⟩, Or.inl rfl⟩ hv2 ?_
    refine rn_steps 0 13 [.ref l0, .int l1, .int l2, .int l3] [.int v2, .int l3] rfl ?_
    refine rn_br (c := v2 ≤ l3) rfl rfl decide_eq_true_iff (fun hb => ?_) (fun hb => ?_)
    · rw [if_pos hb] at h
      refine rn_steps 0 71 [.ref l0, .int l1, .int l2, .int l3] [] rfl ?_
      exact e192_71 d _ _ _ _ _ _ h
    · rw [if_neg hb] at h
      refine rn_steps 2 18 [.ref l0, .int l1, .int l2, .int l3] [.int l1, .int l3] rfl ?_
      refine rn_br (c := l3 = l1) rfl rfl decide_eq_true_iff (fun hb => ?_) (fun hb => ?_)
      · rw [if_pos hb] at h
        refine rn_steps 0 65 [.ref l0, .int l1, .int l2, .int l3] [] rfl ?_
        exact e192_65 d _ ih _ _ _ _ _ _ h
      · rw [if_neg hb] at h
        refine rn_steps 2 23 [.ref l0, .int l1, .int l2, .int l3] [.int l3, .ref l0] rfl ?_
        obtain ⟨u10, hu10, h⟩ := Option.bind_eq_some_iff.mp h
        obtain ⟨y3, hy3, h⟩ := Option.bind_eq_some_iff.mp h
        refine rn_callV [.int l3] rfl rfl ⟨rfl, rfl⟩ hu10 rfl rfl (e190 d hy3) ?_
        refine rn_steps 0 26 [.ref l0, .int l1, .int l2, .int l3] [.int y3.1] rfl ?_
        refine rn_br (c := y3.1 = 0) rfl rfl decide_eq_true_iff (fun hb => ?_) (fun hb => ?_)
        · rw [if_pos hb] at h
          refine rn_steps 0 65 [.ref l0, .int l1, .int l2, .int l3] [] rfl ?_
          exact e192_65 d _ ih _ _ _ _ _ _ h
        · rw [if_neg hb] at h
          refine rn_steps 3 32 [.ref l0, .int l1, .int l2, .int l3] [.int l1, .int l3, .ref l0] rfl ?_
          obtain ⟨u9, hu9, h⟩ := Option.bind_eq_some_iff.mp h
          obtain ⟨y4, hy4, h⟩ := Option.bind_eq_some_iff.mp h
          refine rn_callV [.int l3, .int l1] rfl rfl ⟨rfl, rfl⟩ hu9 rfl rfl (e191 (d + 1) hy4) ?_
          refine rn_steps 1 36 [.ref l0, .int l1, .int l2, .int l3] [.int (-1), .int y4.1] rfl ?_
          refine rn_br (c := ¬ y4.1 = (-1)) rfl rfl decide_eq_true_iff (fun hb => ?_) (fun hb => ?_)
          · rw [if_neg hb] at h
            refine rn_steps 2 45 [.ref l0, .int l1, .int l2, .int l3] [.int (-2), .int l2] rfl ?_
            refine rn_br (c := l2 = (-2)) rfl rfl decide_eq_true_iff (fun hb => ?_) (fun hb => ?_)
            · rw [if_pos hb] at h
              refine rn_steps 0 63 [.ref l0, .int l1, .int l2, .int l3] [] rfl ?_
              exact e192_63 d _ ih _ _ _ _ _ _ h
            · rw [if_neg hb] at h
              refine rn_steps 3 51 [.ref l0, .int l1, .int l2, .int l3] [.int l1, .int l3, .ref l0] rfl ?_
              obtain ⟨u8, hu8, h⟩ := Option.bind_eq_some_iff.mp h
              obtain ⟨y5, hy5, h⟩ := Option.bind_eq_some_iff.mp h
              refine rn_callV [.int l3, .int l1] rfl rfl ⟨rfl, rfl⟩ hu8 rfl rfl (e191 (d + 1) hy5) ?_
              refine rn_steps 3 57 [.ref l0, .int l1, .int l2, .int l3] [.int l1, .int l2, .ref l0, .int y5.1] rfl ?_
              obtain ⟨u7, hu7, h⟩ := Option.bind_eq_some_iff.mp h
              obtain ⟨y6, hy6, h⟩ := Option.bind_eq_some_iff.mp h
              refine rn_callV [.int l2, .int l1] rfl rfl ⟨rfl, rfl⟩ hu7 rfl rfl (e191 (d + 1) hy6) ?_
              refine rn_steps 0 60 [.ref l0, .int l1, .int l2, .int l3] [.int y6.1, .int y5.1] rfl ?_
              refine rn_br (c := y5.1 ≤ y6.1) rfl rfl decide_eq_true_iff (fun hb => ?_) (fun hb => ?_)
              · rw [if_pos hb] at h
                refine rn_steps 0 65 [.ref l0, .int l1, .int l2, .int l3] [] rfl ?_
                exact e192_65 d _ ih _ _ _ _ _ _ h
              · rw [if_neg hb] at h
                refine rn_steps 0 63 [.ref l0, .int l1, .int l2, .int l3] [] rfl ?_
                exact e192_63 d _ ih _ _ _ _ _ _ h
          · rw [if_pos (Decidable.not_not.mp hb)] at h
            refine rn_steps 1 65 [.ref l0, .int l1, .int l2, .int l3] [] rfl ?_
            exact e192_65 d _ ih _ _ _ _ _ _ h
/-- LastAskedModel.heirOf(I)I -/
noncomputable def f192 (l0 : Nat) (l1 : Int32) (σ : xM) : Option (Int32 × xM) :=
  f192_5 1100 l0 l1 (-2) 0 σ
set_option maxRecDepth 20000 in
set_option maxHeartbeats 1000000 in
theorem e192 (d : Nat) {l0 : Nat} {l1 : Int32} {σ : xM} {y : Int32 × xM} (h : f192 l0 l1 σ = some y) : Rn (d + 2) 192 0 [.ref l0, .int l1, .retAddr 0, .retAddr 0] [] σ (some (.int y.1), y.2) := by
  unfold f192 at h
  refine rn_steps 4 5 [.ref l0, .int l1, .int (-2), .int 0] [] rfl ?_
  exact e192_5 d 1100 _ _ _ _ _ _ h
noncomputable def f193_30 (σ : xM) : Option xM :=
  some σ
set_option maxRecDepth 20000 in
set_option maxHeartbeats 1000000 in
theorem e193_30 (d : Nat) (x0 x1 : Value) (σ : xM) (y : xM) (h : f193_30 σ = some y) : Rn (d + 3) 193 30 [x0, x1] [] σ (none, y) := by
  unfold f193_30 at h
  cases h
  exact rn_ret rfl rfl rfl
noncomputable def f193_2 : Nat → Nat → Int32 → xM → Option xM
  | 0, _, _, _ => none
  | n + 1, l0, l1, σ =>
    (gR σ l0 9 3).bind fun r1 =>
    (gI σ r1 8 2).bind fun v2 =>
    if v2 ≤ l1 then
    f193_30 σ
    else
    (gR σ l0 9 22).bind fun r3 =>
    (cO σ l0 9).bind fun u6 =>
    (f192 l0 l1 σ).bind fun y4 =>
    (tI y4.2 r3 l1 y4.1).bind fun σ5 =>
    (f193_2 n) l0 (l1 + 1) σ5
set_option maxRecDepth 20000 in
set_option maxHeartbeats 1000000 in
theorem e193_2 (d : Nat) : ∀ (n : Nat) (l0 : Nat) (l1 : Int32) (σ : xM) (y : xM), f193_2 n l0 l1 σ = some y → Rn (d + 3) 193 2 [.ref l0, .int l1] [] σ (none, y) := by
  intro n
  induction n with
  | zero => intro l0 l1 σ y h; cases h
  | succ n ih =>
    intro l0 l1 σ y h
    unfold f193_2 at h
    refine rn_steps 2 4 [.ref l0, .int l1] [.ref l0, .int l1] rfl ?_
    obtain ⟨r1, hr1, h⟩ := Option.bind_eq_some_iff.mp h
    refine rn_gR (c := 9) (f := 3) rfl rfl ⟨⟨rfl, rfl⟩, rfl⟩ hr1 ?_
    refine rn_steps 0 7 [.ref l0, .int l1] [.ref r1, .int l1] rfl ?_
    obtain ⟨v2, hv2, h⟩ := Option.bind_eq_some_iff.mp h
    refine rn_gI (c := 8) (f := 2) rfl rfl ⟨⟨rfl, rfl⟩, Or.inl rfl⟩ hv2 ?_
    refine rn_steps 0 10 [.ref l0, .int l1] [.int v2, .int l1] rfl ?_
    refine rn_br (c := v2 ≤ l1) rfl rfl decide_eq_true_iff (fun hb => ?_) (fun hb => ?_)
    · rw [if_pos hb] at h
      refine rn_steps 0 30 [.ref l0, .int l1] [] rfl ?_
      exact e193_30 d _ _ _ _ h
    · rw [if_neg hb] at h
      refine rn_steps 1 14 [.ref l0, .int l1] [.ref l0] rfl ?_
      obtain ⟨r3, hr3, h⟩ := Option.bind_eq_some_iff.mp h
      refine rn_gR (c := 9) (f := 22) rfl rfl ⟨⟨rfl, rfl⟩, rfl⟩ hr3 ?_
      refine rn_steps 3 20 [.ref l0, .int l1] [.int l1, .ref l0, .int l1, .ref r3] rfl ?_
      obtain ⟨u6, hu6, h⟩ := Option.bind_eq_some_iff.mp h
      obtain ⟨y4, hy4, h⟩ := Option.bind_eq_some_iff.mp h
      refine rn_callV [.int l1] rfl rfl ⟨rfl, rfl⟩ hu6 rfl rfl (e192 d hy4) ?_
      refine rn_steps 0 23 [.ref l0, .int l1] [.int y4.1, .int l1, .ref r3] rfl ?_
      obtain ⟨σ5, hσ5, h⟩ := Option.bind_eq_some_iff.mp h
      refine rn_tI rfl hσ5 ?_
      refine rn_steps 2 2 [.ref l0, .int (l1 + 1)] [] rfl ?_
      exact ih _ _ _ _ h
/-- LastAskedModel.heirs()V -/
noncomputable def f193 (l0 : Nat) (σ : xM) : Option xM :=
  f193_2 1100 l0 0 σ
set_option maxRecDepth 20000 in
set_option maxHeartbeats 1000000 in
theorem e193 (d : Nat) {l0 : Nat} {σ : xM} {y : xM} (h : f193 l0 σ = some y) : Rn (d + 3) 193 0 [.ref l0, .retAddr 0] [] σ (none, y) := by
  unfold f193 at h
  refine rn_steps 2 2 [.ref l0, .int 0] [] rfl ?_
  exact e193_2 d 1100 _ _ _ _ h
noncomputable def f194_52 (l4 : Int32) (σ : xM) : Option (Int32 × xM) :=
  some (l4, σ)
set_option maxRecDepth 20000 in
set_option maxHeartbeats 1000000 in
theorem e194_52 (d : Nat) (l4 : Int32) (x0 x1 x2 x3 : Value) (σ : xM) (y : Int32 × xM) (h : f194_52 l4 σ = some y) : Rn (d + 1) 194 52 [x0, x1, x2, x3, .int l4] [] σ (some (.int y.1), y.2) := by
  unfold f194_52 at h
  refine rn_steps 1 54 [x0, x1, x2, x3, .int l4] [.int l4] rfl ?_
  cases h
  exact rn_ret rfl rfl rfl
noncomputable def f194_5 : Nat → Nat → Int32 → Int32 → Int32 → xM → Option (Int32 × xM)
  | 0, _, _, _, _, _ => none
  | n + 1, l0, l2, l3, l4, σ =>
    if l4 = (-2) then
    f194_52 l4 σ
    else
    (f157 l2 l4 σ).bind fun y1 =>
    if y1.1 = 0 then
    f194_52 l4 y1.2
    else
    (f157 l3 l4 y1.2).bind fun y2 =>
    if y2.1 = 0 then
    (gR y2.2 l0 9 22).bind fun r3 =>
    (aI y2.2 r3 l4).bind fun v4 =>
    (f194_5 n) l0 l2 (l3 ||| (1 <<< (l4 &&& 31))) v4 y2.2
    else
    some ((-2), y2.2)
set_option maxRecDepth 20000 in
set_option maxHeartbeats 1000000 in
theorem e194_5 (d : Nat) : ∀ (n : Nat) (l0 : Nat) (l2 : Int32) (l3 : Int32) (l4 : Int32) (x1 : Value) (σ : xM) (y : Int32 × xM), f194_5 n l0 l2 l3 l4 σ = some y → Rn (d + 1) 194 5 [.ref l0, x1, .int l2, .int l3, .int l4] [] σ (some (.int y.1), y.2) := by
  intro n
  induction n with
  | zero => intro l0 l2 l3 l4 x1 σ y h; cases h
  | succ n ih =>
    intro l0 l2 l3 l4 x1 σ y h
    unfold f194_5 at h
    refine rn_steps 2 9 [.ref l0, x1, .int l2, .int l3, .int l4] [.int (-2), .int l4] rfl ?_
    refine rn_br (c := l4 = (-2)) rfl rfl decide_eq_true_iff (fun hb => ?_) (fun hb => ?_)
    · rw [if_pos hb] at h
      refine rn_steps 0 52 [.ref l0, x1, .int l2, .int l3, .int l4] [] rfl ?_
      exact e194_52 d _ _ _ _ _ _ _ h
    · rw [if_neg hb] at h
      refine rn_steps 2 15 [.ref l0, x1, .int l2, .int l3, .int l4] [.int l4, .int l2] rfl ?_
      obtain ⟨y1, hy1, h⟩ := Option.bind_eq_some_iff.mp h
      refine rn_callS [.int l2, .int l4] rfl rfl rfl ⟨rfl, rfl, rfl⟩ rfl rfl (e157 d hy1) ?_
      refine rn_steps 0 18 [.ref l0, x1, .int l2, .int l3, .int l4] [.int y1.1] rfl ?_
      refine rn_br (c := y1.1 = 0) rfl rfl decide_eq_true_iff (fun hb => ?_) (fun hb => ?_)
      · rw [if_pos hb] at h
        refine rn_steps 0 52 [.ref l0, x1, .int l2, .int l3, .int l4] [] rfl ?_
        exact e194_52 d _ _ _ _ _ _ _ h
      · rw [if_neg hb] at h
        refine rn_steps 2 24 [.ref l0, x1, .int l2, .int l3, .int l4] [.int l4, .int l3] rfl ?_
        obtain ⟨y2, hy2, h⟩ := Option.bind_eq_some_iff.mp h
        refine rn_callS [.int l3, .int l4] rfl rfl rfl ⟨rfl, rfl, rfl⟩ rfl rfl (e157 d hy2) ?_
        refine rn_steps 0 27 [.ref l0, x1, .int l2, .int l3, .int l4] [.int y2.1] rfl ?_
        refine rn_br (c := y2.1 = 0) rfl rfl decide_eq_true_iff (fun hb => ?_) (fun hb => ?_)
        · rw [if_pos hb] at h
          refine rn_steps 7 41 [.ref l0, x1, .int l2, .int (l3 ||| (1 <<< (l4 &&& 31))), .int l4] [.ref l0] rfl ?_
          obtain ⟨r3, hr3, h⟩ := Option.bind_eq_some_iff.mp h
          refine rn_gR (c := 9) (f := 22) rfl rfl ⟨⟨rfl, rfl⟩, rfl⟩ hr3 ?_
          refine rn_steps 1 46 [.ref l0, x1, .int l2, .int (l3 ||| (1 <<< (l4 &&& 31))), .int l4] [.int l4, .ref r3] rfl ?_
          obtain ⟨v4, hv4, h⟩ := Option.bind_eq_some_iff.mp h
          refine rn_aI rfl hv4 ?_
          refine rn_steps 2 5 [.ref l0, x1, .int l2, .int (l3 ||| (1 <<< (l4 &&& 31))), .int v4] [] rfl ?_
          exact ih _ _ _ _ _ _ _ h
        · rw [if_neg hb] at h
          refine rn_steps 1 32 [.ref l0, x1, .int l2, .int l3, .int l4] [.int (-2)] rfl ?_
          cases h
          exact rn_ret rfl rfl rfl
/-- LastAskedModel.goes(II)I -/
noncomputable def f194 (l0 : Nat) (l1 : Int32) (l2 : Int32) (σ : xM) : Option (Int32 × xM) :=
  f194_5 1100 l0 l2 0 l1 σ
set_option maxRecDepth 20000 in
set_option maxHeartbeats 1000000 in
theorem e194 (d : Nat) {l0 : Nat} {l1 : Int32} {l2 : Int32} {σ : xM} {y : Int32 × xM} (h : f194 l0 l1 l2 σ = some y) : Rn (d + 1) 194 0 [.ref l0, .int l1, .int l2, .retAddr 0, .retAddr 0] [] σ (some (.int y.1), y.2) := by
  unfold f194 at h
  refine rn_steps 4 5 [.ref l0, .int l1, .int l2, .int 0, .int l1] [] rfl ?_
  exact e194_5 d 1100 _ _ _ _ _ _ _ h
noncomputable def f195_132 (σ : xM) : Option xM :=
  some σ
set_option maxRecDepth 20000 in
set_option maxHeartbeats 1000000 in
theorem e195_132 (d : Nat) (x0 x1 x2 x3 : Value) (σ : xM) (y : xM) (h : f195_132 σ = some y) : Rn (d + 2) 195 132 [x0, x1, x2, x3] [] σ (none, y) := by
  unfold f195_132 at h
  cases h
  exact rn_ret rfl rfl rfl
noncomputable def f195_126 (K58 : Nat → Int32 → Int32 → xM → Option xM) (l0 : Nat) (l1 : Int32) (l2 : Int32) (σ : xM) : Option xM :=
  K58 l0 l1 (l2 + 1) σ
set_option maxRecDepth 20000 in
set_option maxHeartbeats 1000000 in
theorem e195_126 (d : Nat) (K58 : Nat → Int32 → Int32 → xM → Option xM) (hK58 : ∀ (l0 : Nat) (l1 : Int32) (l2 : Int32) (x3 : Value) (σ : xM) (y : xM), K58 l0 l1 l2 σ = some y → Rn (d + 2) 195 58 [.ref l0, .int l1, .int l2, x3] [] σ (none, y)) (l0 : Nat) (l1 : Int32) (l2 : Int32) (x3 : Value) (σ : xM) (y : xM) (h : f195_126 K58 l0 l1 l2 σ = some y) : Rn (d + 2) 195 126 [.ref l0, .int l1, .int l2, x3] [] σ (none, y) := by
  unfold f195_126 at h
  refine rn_steps 2 58 [.ref l0, .int l1, .int (l2 + 1), x3] [] rfl ?_
  exact hK58 _ _ _ _ _ _ h
noncomputable def f195_58 : Nat → Nat → Int32 → Int32 → xM → Option xM
  | 0, _, _, _, _ => none
  | n + 1, l0, l1, l2, σ =>
    (gR σ l0 9 3).bind fun r1 =>
    (gI σ r1 8 2).bind fun v2 =>
    if v2 ≤ l2 then
    f195_132 σ
    else
    (f157 l1 l2 σ).bind fun y3 =>
    if y3.1 = 0 then
    f195_126 (f195_58 n) l0 l1 l2 y3.2
    else
    (cO y3.2 l0 9).bind fun u14 =>
    (f194 l0 l2 l1 y3.2).bind fun y4 =>
    if y4.1 = (-2) then
    (gI y4.2 l0 9 24).bind fun v10 =>
    (gR y4.2 l0 9 17).bind fun r11 =>
    (aI y4.2 r11 l2).bind fun v12 =>
    (pI y4.2 l0 9 24 (v10 + v12)).bind fun σ13 =>
    f195_126 (f195_58 n) l0 l1 l2 σ13
    else
    (gR y4.2 l0 9 23).bind fun r5 =>
    (aI y4.2 r5 y4.1).bind fun v6 =>
    (gR y4.2 l0 9 17).bind fun r7 =>
    (aI y4.2 r7 l2).bind fun v8 =>
    (tI y4.2 r5 y4.1 (v6 + v8)).bind fun σ9 =>
    f195_126 (f195_58 n) l0 l1 l2 σ9
set_option maxRecDepth 20000 in
set_option maxHeartbeats 1000000 in
theorem e195_58 (d : Nat) : ∀ (n : Nat) (l0 : Nat) (l1 : Int32) (l2 : Int32) (x3 : Value) (σ : xM) (y : xM), f195_58 n l0 l1 l2 σ = some y → Rn (d + 2) 195 58 [.ref l0, .int l1, .int l2, x3] [] σ (none, y) := by
  intro n
  induction n with
  | zero => intro l0 l1 l2 x3 σ y h; cases h
  | succ n ih =>
    intro l0 l1 l2 x3 σ y h
    unfold f195_58 at h
    refine rn_steps 2 60 [.ref l0, .int l1, .int l2, x3] [.ref l0, .int l2] rfl ?_
    obtain ⟨r1, hr1, h⟩ := Option.bind_eq_some_iff.mp h
    refine rn_gR (c := 9) (f := 3) rfl rfl ⟨⟨rfl, rfl⟩, rfl⟩ hr1 ?_
    refine rn_steps 0 63 [.ref l0, .int l1, .int l2, x3] [.ref r1, .int l2] rfl ?_
    obtain ⟨v2, hv2, h⟩ := Option.bind_eq_some_iff.mp h
    refine rn_gI (c := 8) (f := 2) rfl rfl ⟨⟨rfl, rfl⟩, Or.inl rfl⟩ hv2 ?_
    refine rn_steps 0 66 [.ref l0, .int l1, .int l2, x3] [.int v2, .int l2] rfl ?_
    refine rn_br (c := v2 ≤ l2) rfl rfl decide_eq_true_iff (fun hb => ?_) (fun hb => ?_)
    · rw [if_pos hb] at h
      refine rn_steps 0 132 [.ref l0, .int l1, .int l2, x3] [] rfl ?_
      exact e195_132 d _ _ _ _ _ _ h
    · rw [if_neg hb] at h
      refine rn_steps 2 71 [.ref l0, .int l1, .int l2, x3] [.int l2, .int l1] rfl ?_
      obtain ⟨y3, hy3, h⟩ := Option.bind_eq_some_iff.mp h
      refine rn_callS [.int l1, .int l2] rfl rfl rfl ⟨rfl, rfl, rfl⟩ rfl rfl (e157 (d + 1) hy3) ?_
      refine rn_steps 0 74 [.ref l0, .int l1, .int l2, x3] [.int y3.1] rfl ?_
      refine rn_br (c := ¬ y3.1 = 0) rfl rfl decide_eq_true_iff (fun hb => ?_) (fun hb => ?_)
      · rw [if_neg hb] at h
        refine rn_steps 3 83 [.ref l0, .int l1, .int l2, x3] [.int l1, .int l2, .ref l0] rfl ?_
        obtain ⟨u14, hu14, h⟩ := Option.bind_eq_some_iff.mp h
        obtain ⟨y4, hy4, h⟩ := Option.bind_eq_some_iff.mp h
        refine rn_callV [.int l2, .int l1] rfl rfl ⟨rfl, rfl⟩ hu14 rfl rfl (e194 d hy4) ?_
        refine rn_steps 3 90 [.ref l0, .int l1, .int l2, .int y4.1] [.int (-2), .int y4.1] rfl ?_
        refine rn_br (c := ¬ y4.1 = (-2)) rfl rfl decide_eq_true_iff (fun hb => ?_) (fun hb => ?_)
        · rw [if_neg hb] at h
          refine rn_steps 1 112 [.ref l0, .int l1, .int l2, .int y4.1] [.ref l0] rfl ?_
          obtain ⟨r5, hr5, h⟩ := Option.bind_eq_some_iff.mp h
          refine rn_gR (c := 9) (f := 23) rfl rfl ⟨⟨rfl, rfl⟩, rfl⟩ hr5 ?_
          refine rn_steps 2 117 [.ref l0, .int l1, .int l2, .int y4.1] [.int y4.1, .ref r5, .int y4.1, .ref r5] rfl ?_
          obtain ⟨v6, hv6, h⟩ := Option.bind_eq_some_iff.mp h
          refine rn_aI rfl hv6 ?_
          refine rn_steps 1 119 [.ref l0, .int l1, .int l2, .int y4.1] [.ref l0, .int v6, .int y4.1, .ref r5] rfl ?_
          obtain ⟨r7, hr7, h⟩ := Option.bind_eq_some_iff.mp h
          refine rn_gR (c := 9) (f := 17) rfl rfl ⟨⟨rfl, rfl⟩, rfl⟩ hr7 ?_
          refine rn_steps 1 123 [.ref l0, .int l1, .int l2, .int y4.1] [.int l2, .ref r7, .int v6, .int y4.1, .ref r5] rfl ?_
          obtain ⟨v8, hv8, h⟩ := Option.bind_eq_some_iff.mp h
          refine rn_aI rfl hv8 ?_
          refine rn_steps 1 125 [.ref l0, .int l1, .int l2, .int y4.1] [.int (v6 + v8), .int y4.1, .ref r5] rfl ?_
          obtain ⟨σ9, hσ9, h⟩ := Option.bind_eq_some_iff.mp h
          refine rn_tI rfl hσ9 ?_
          refine rn_steps 0 126 [.ref l0, .int l1, .int l2, .int y4.1] [] rfl ?_
          exact e195_126 d _ ih _ _ _ _ _ _ h
        · rw [if_pos (Decidable.not_not.mp hb)] at h
          refine rn_steps 2 95 [.ref l0, .int l1, .int l2, .int y4.1] [.ref l0, .ref l0] rfl ?_
          obtain ⟨v10, hv10, h⟩ := Option.bind_eq_some_iff.mp h
          refine rn_gI (c := 9) (f := 24) rfl rfl ⟨⟨rfl, rfl⟩, Or.inl rfl⟩ hv10 ?_
          refine rn_steps 1 99 [.ref l0, .int l1, .int l2, .int y4.1] [.ref l0, .int v10, .ref l0] rfl ?_
          obtain ⟨r11, hr11, h⟩ := Option.bind_eq_some_iff.mp h
          refine rn_gR (c := 9) (f := 17) rfl rfl ⟨⟨rfl, rfl⟩, rfl⟩ hr11 ?_
          refine rn_steps 1 103 [.ref l0, .int l1, .int l2, .int y4.1] [.int l2, .ref r11, .int v10, .ref l0] rfl ?_
          obtain ⟨v12, hv12, h⟩ := Option.bind_eq_some_iff.mp h
          refine rn_aI rfl hv12 ?_
          refine rn_steps 1 105 [.ref l0, .int l1, .int l2, .int y4.1] [.int (v10 + v12), .ref l0] rfl ?_
          obtain ⟨σ13, hσ13, h⟩ := Option.bind_eq_some_iff.mp h
          refine rn_pI (c := 9) (f := 24) rfl rfl ⟨⟨rfl, rfl⟩, rfl⟩ hσ13 ?_
          refine rn_steps 1 126 [.ref l0, .int l1, .int l2, .int y4.1] [] rfl ?_
          exact e195_126 d _ ih _ _ _ _ _ _ h
      · rw [if_pos (Decidable.not_not.mp hb)] at h
        refine rn_steps 1 126 [.ref l0, .int l1, .int l2, x3] [] rfl ?_
        exact e195_126 d _ ih _ _ _ _ _ _ h
noncomputable def f195_56 (l0 : Nat) (l1 : Int32) (σ : xM) : Option xM :=
  f195_58 1100 l0 l1 0 σ
set_option maxRecDepth 20000 in
set_option maxHeartbeats 1000000 in
theorem e195_56 (d : Nat) (l0 : Nat) (l1 : Int32) (x2 x3 : Value) (σ : xM) (y : xM) (h : f195_56 l0 l1 σ = some y) : Rn (d + 2) 195 56 [.ref l0, .int l1, x2, x3] [] σ (none, y) := by
  unfold f195_56 at h
  refine rn_steps 2 58 [.ref l0, .int l1, .int 0, x3] [] rfl ?_
  exact e195_58 d 1100 _ _ _ _ _ _ h
noncomputable def f195_49 (K7 : Nat → Int32 → Int32 → xM → Option xM) (l0 : Nat) (l1 : Int32) (l2 : Int32) (s0 : Int32) (s1 : Int32) (s2 : Nat) (σ : xM) : Option xM :=
  (tI σ s2 s1 s0).bind fun σ1 =>
  K7 l0 l1 (l2 + 1) σ1
set_option maxRecDepth 20000 in
set_option maxHeartbeats 1000000 in
theorem e195_49 (d : Nat) (K7 : Nat → Int32 → Int32 → xM → Option xM) (hK7 : ∀ (l0 : Nat) (l1 : Int32) (l2 : Int32) (x3 : Value) (σ : xM) (y : xM), K7 l0 l1 l2 σ = some y → Rn (d + 2) 195 7 [.ref l0, .int l1, .int l2, x3] [] σ (none, y)) (l0 : Nat) (l1 : Int32) (l2 : Int32) (s0 : Int32) (s1 : Int32) (s2 : Nat) (x3 : Value) (σ : xM) (y : xM) (h : f195_49 K7 l0 l1 l2 s0 s1 s2 σ = some y) : Rn (d + 2) 195 49 [.ref l0, .int l1, .int l2, x3] [.int s0, .int s1, .ref s2] σ (none, y) := by
  unfold f195_49 at h
  obtain ⟨σ1, hσ1, h⟩ := Option.bind_eq_some_iff.mp h
  refine rn_tI rfl hσ1 ?_
  refine rn_steps 2 7 [.ref l0, .int l1, .int (l2 + 1), x3] [] rfl ?_
  exact hK7 _ _ _ _ _ _ h
noncomputable def f195_39 (K7 : Nat → Int32 → Int32 → xM → Option xM) (l0 : Nat) (l1 : Int32) (l2 : Int32) (s0 : Int32) (s1 : Nat) (σ : xM) : Option xM :=
  f195_49 K7 l0 l1 l2 0 s0 s1 σ
set_option maxRecDepth 20000 in
set_option maxHeartbeats 1000000 in
theorem e195_39 (d : Nat) (K7 : Nat → Int32 → Int32 → xM → Option xM) (hK7 : ∀ (l0 : Nat) (l1 : Int32) (l2 : Int32) (x3 : Value) (σ : xM) (y : xM), K7 l0 l1 l2 σ = some y → Rn (d + 2) 195 7 [.ref l0, .int l1, .int l2, x3] [] σ (none, y)) (l0 : Nat) (l1 : Int32) (l2 : Int32) (s0 : Int32) (s1 : Nat) (x3 : Value) (σ : xM) (y : xM) (h : f195_39 K7 l0 l1 l2 s0 s1 σ = some y) : Rn (d + 2) 195 39 [.ref l0, .int l1, .int l2, x3] [.int s0, .ref s1] σ (none, y) := by
  unfold f195_39 at h
  refine rn_steps 2 49 [.ref l0, .int l1, .int l2, x3] [.int 0, .int s0, .ref s1] rfl ?_
  exact e195_49 d _ hK7 _ _ _ _ _ _ _ _ _ h
noncomputable def f195_7 : Nat → Nat → Int32 → Int32 → xM → Option xM
  | 0, _, _, _, _ => none
  | n + 1, l0, l1, l2, σ =>
    (gR σ l0 9 3).bind fun r1 =>
    (gI σ r1 8 2).bind fun v2 =>
    if v2 ≤ l2 then
    f195_56 l0 l1 σ
    else
    (gR σ l0 9 23).bind fun r3 =>
    (f157 l1 l2 σ).bind fun y4 =>
    if y4.1 = 0 then
    (cO y4.2 l0 9).bind fun u8 =>
    (f190 l0 l2 y4.2).bind fun y5 =>
    if y5.1 = 0 then
    f195_39 (f195_7 n) l0 l1 l2 l2 r3 y5.2
    else
    (gR y5.2 l0 9 17).bind fun r6 =>
    (aI y5.2 r6 l2).bind fun v7 =>
    f195_49 (f195_7 n) l0 l1 l2 v7 l2 r3 y5.2
    else
    f195_39 (f195_7 n) l0 l1 l2 l2 r3 y4.2
set_option maxRecDepth 20000 in
set_option maxHeartbeats 1000000 in
theorem e195_7 (d : Nat) : ∀ (n : Nat) (l0 : Nat) (l1 : Int32) (l2 : Int32) (x3 : Value) (σ : xM) (y : xM), f195_7 n l0 l1 l2 σ = some y → Rn (d + 2) 195 7 [.ref l0, .int l1, .int l2, x3] [] σ (none, y) := by
  intro n
  induction n with
  | zero => intro l0 l1 l2 x3 σ y h; cases h
  | succ n ih =>
    intro l0 l1 l2 x3 σ y h
    unfold f195_7 at h
    refine rn_steps 2 9 [.ref l0, .int l1, .int l2, x3] [.ref l0, .int l2] rfl ?_
    obtain ⟨r1, hr1, h⟩ := Option.bind_eq_some_iff.mp h
    refine rn_gR (c := 9) (f := 3) rfl rfl ⟨⟨rfl, rfl⟩, rfl⟩ hr1 ?_
    refine rn_steps 0 12 [.ref l0, .int l1, .int l2, x3] [.ref r1, .int l2] rfl ?_
    obtain ⟨v2, hv2, h⟩ := Option.bind_eq_some_iff.mp h
    refine rn_gI (c := 8) (f := 2) rfl rfl ⟨⟨rfl, rfl⟩, Or.inl rfl⟩ hv2 ?_
    refine rn_steps 0 15 [.ref l0, .int l1, .int l2, x3] [.int v2, .int l2] rfl ?_
    refine rn_br (c := v2 ≤ l2) rfl rfl decide_eq_true_iff (fun hb => ?_) (fun hb => ?_)
    · rw [if_pos hb] at h
      refine rn_steps 0 56 [.ref l0, .int l1, .int l2, x3] [] rfl ?_
      exact e195_56 d _ _ _ _ _ _ h
    · rw [if_neg hb] at h
      refine rn_steps 1 19 [.ref l0, .int l1, .int l2, x3] [.ref l0] rfl ?_
      obtain ⟨r3, hr3, h⟩ := Option.bind_eq_some_iff.mp h
      refine rn_gR (c := 9) (f := 23) rfl rfl ⟨⟨rfl, rfl⟩, rfl⟩ hr3 ?_
      refine rn_steps 3 25 [.ref l0, .int l1, .int l2, x3] [.int l2, .int l1, .int l2, .ref r3] rfl ?_
      obtain ⟨y4, hy4, h⟩ := Option.bind_eq_some_iff.mp h
      refine rn_callS [.int l1, .int l2] rfl rfl rfl ⟨rfl, rfl, rfl⟩ rfl rfl (e157 (d + 1) hy4) ?_
      refine rn_steps 0 28 [.ref l0, .int l1, .int l2, x3] [.int y4.1, .int l2, .ref r3] rfl ?_
      refine rn_br (c := ¬ y4.1 = 0) rfl rfl decide_eq_true_iff (fun hb => ?_) (fun hb => ?_)
      · rw [if_neg hb] at h
        refine rn_steps 0 39 [.ref l0, .int l1, .int l2, x3] [.int l2, .ref r3] rfl ?_
        exact e195_39 d _ ih _ _ _ _ _ _ _ _ h
      · rw [if_pos (Decidable.not_not.mp hb)] at h
        refine rn_steps 2 33 [.ref l0, .int l1, .int l2, x3] [.int l2, .ref l0, .int l2, .ref r3] rfl ?_
        obtain ⟨u8, hu8, h⟩ := Option.bind_eq_some_iff.mp h
        obtain ⟨y5, hy5, h⟩ := Option.bind_eq_some_iff.mp h
        refine rn_callV [.int l2] rfl rfl ⟨rfl, rfl⟩ hu8 rfl rfl (e190 d hy5) ?_
        refine rn_steps 0 36 [.ref l0, .int l1, .int l2, x3] [.int y5.1, .int l2, .ref r3] rfl ?_
        refine rn_br (c := ¬ y5.1 = 0) rfl rfl decide_eq_true_iff (fun hb => ?_) (fun hb => ?_)
        · rw [if_neg hb] at h
          refine rn_steps 1 44 [.ref l0, .int l1, .int l2, x3] [.ref l0, .int l2, .ref r3] rfl ?_
          obtain ⟨r6, hr6, h⟩ := Option.bind_eq_some_iff.mp h
          refine rn_gR (c := 9) (f := 17) rfl rfl ⟨⟨rfl, rfl⟩, rfl⟩ hr6 ?_
          refine rn_steps 1 48 [.ref l0, .int l1, .int l2, x3] [.int l2, .ref r6, .int l2, .ref r3] rfl ?_
          obtain ⟨v7, hv7, h⟩ := Option.bind_eq_some_iff.mp h
          refine rn_aI rfl hv7 ?_
          refine rn_steps 0 49 [.ref l0, .int l1, .int l2, x3] [.int v7, .int l2, .ref r3] rfl ?_
          exact e195_49 d _ ih _ _ _ _ _ _ _ _ _ h
        · rw [if_pos (Decidable.not_not.mp hb)] at h
          refine rn_steps 0 39 [.ref l0, .int l1, .int l2, x3] [.int l2, .ref r3] rfl ?_
          exact e195_39 d _ ih _ _ _ _ _ _ _ _ h
/-- LastAskedModel.dying(I)V -/
noncomputable def f195 (l0 : Nat) (l1 : Int32) (σ : xM) : Option xM :=
  (pI σ l0 9 24 0).bind fun σ1 =>
  f195_7 1100 l0 l1 0 σ1
set_option maxRecDepth 20000 in
set_option maxHeartbeats 1000000 in
theorem e195 (d : Nat) {l0 : Nat} {l1 : Int32} {σ : xM} {y : xM} (h : f195 l0 l1 σ = some y) : Rn (d + 2) 195 0 [.ref l0, .int l1, .retAddr 0, .retAddr 0] [] σ (none, y) := by
  unfold f195 at h
  refine rn_steps 2 2 [.ref l0, .int l1, .retAddr 0, .retAddr 0] [.int 0, .ref l0] rfl ?_
  obtain ⟨σ1, hσ1, h⟩ := Option.bind_eq_some_iff.mp h
  refine rn_pI (c := 9) (f := 24) rfl rfl ⟨⟨rfl, rfl⟩, rfl⟩ hσ1 ?_
  refine rn_steps 2 7 [.ref l0, .int l1, .int 0, .retAddr 0] [] rfl ?_
  exact e195_7 d 1100 _ _ _ _ _ _ h
noncomputable def f196_82 (σ : xM) : Option xM :=
  some σ
set_option maxRecDepth 20000 in
set_option maxHeartbeats 1000000 in
theorem e196_82 (d : Nat) (x0 x1 x2 x3 : Value) (σ : xM) (y : xM) (h : f196_82 σ = some y) : Rn (d + 4) 196 82 [x0, x1, x2, x3] [] σ (none, y) := by
  unfold f196_82 at h
  cases h
  exact rn_ret rfl rfl rfl
noncomputable def f196_40 (l0 : Nat) (l1 : Int32) (l2 : Int32) (σ : xM) : Option xM :=
  (gR σ l0 9 17).bind fun r1 =>
  (aI σ r1 43).bind fun v2 =>
  (gI σ l0 9 24).bind fun v3 =>
  (tI σ r1 43 (v2 + v3)).bind fun σ4 =>
  (gR σ4 l0 9 17).bind fun r5 =>
  (aI σ4 r5 42).bind fun v6 =>
  (tI σ4 r5 42 (v6 &&& (l1 ^^^ (-1)))).bind fun σ7 =>
  if l2 = 0 then
  f196_82 σ7
  else
  (gR σ7 l0 9 17).bind fun r8 =>
  (aI σ7 r8 45).bind fun v9 =>
  (tI σ7 r8 45 (v9 + 1)).bind fun σ10 =>
  f196_82 σ10
set_option maxRecDepth 20000 in
set_option maxHeartbeats 1000000 in
theorem e196_40 (d : Nat) (l0 : Nat) (l1 : Int32) (l2 : Int32) (x3 : Value) (σ : xM) (y : xM) (h : f196_40 l0 l1 l2 σ = some y) : Rn (d + 4) 196 40 [.ref l0, .int l1, .int l2, x3] [] σ (none, y) := by
  unfold f196_40 at h
  refine rn_steps 1 41 [.ref l0, .int l1, .int l2, x3] [.ref l0] rfl ?_
  obtain ⟨r1, hr1, h⟩ := Option.bind_eq_some_iff.mp h
  refine rn_gR (c := 9) (f := 17) rfl rfl ⟨⟨rfl, rfl⟩, rfl⟩ hr1 ?_
  refine rn_steps 2 47 [.ref l0, .int l1, .int l2, x3] [.int 43, .ref r1, .int 43, .ref r1] rfl ?_
  obtain ⟨v2, hv2, h⟩ := Option.bind_eq_some_iff.mp h
  refine rn_aI rfl hv2 ?_
  refine rn_steps 1 49 [.ref l0, .int l1, .int l2, x3] [.ref l0, .int v2, .int 43, .ref r1] rfl ?_
  obtain ⟨v3, hv3, h⟩ := Option.bind_eq_some_iff.mp h
  refine rn_gI (c := 9) (f := 24) rfl rfl ⟨⟨rfl, rfl⟩, Or.inl rfl⟩ hv3 ?_
  refine rn_steps 1 53 [.ref l0, .int l1, .int l2, x3] [.int (v2 + v3), .int 43, .ref r1] rfl ?_
  obtain ⟨σ4, hσ4, h⟩ := Option.bind_eq_some_iff.mp h
  refine rn_tI rfl hσ4 ?_
  refine rn_steps 1 55 [.ref l0, .int l1, .int l2, x3] [.ref l0] rfl ?_
  obtain ⟨r5, hr5, h⟩ := Option.bind_eq_some_iff.mp h
  refine rn_gR (c := 9) (f := 17) rfl rfl ⟨⟨rfl, rfl⟩, rfl⟩ hr5 ?_
  refine rn_steps 2 61 [.ref l0, .int l1, .int l2, x3] [.int 42, .ref r5, .int 42, .ref r5] rfl ?_
  obtain ⟨v6, hv6, h⟩ := Option.bind_eq_some_iff.mp h
  refine rn_aI rfl hv6 ?_
  refine rn_steps 4 66 [.ref l0, .int l1, .int l2, x3] [.int (v6 &&& (l1 ^^^ (-1))), .int 42, .ref r5] rfl ?_
  obtain ⟨σ7, hσ7, h⟩ := Option.bind_eq_some_iff.mp h
  refine rn_tI rfl hσ7 ?_
  refine rn_steps 1 68 [.ref l0, .int l1, .int l2, x3] [.int l2] rfl ?_
  refine rn_br (c := l2 = 0) rfl rfl decide_eq_true_iff (fun hb => ?_) (fun hb => ?_)
  · rw [if_pos hb] at h
    refine rn_steps 0 82 [.ref l0, .int l1, .int l2, x3] [] rfl ?_
    exact e196_82 d _ _ _ _ _ _ h
  · rw [if_neg hb] at h
    refine rn_steps 1 72 [.ref l0, .int l1, .int l2, x3] [.ref l0] rfl ?_
    obtain ⟨r8, hr8, h⟩ := Option.bind_eq_some_iff.mp h
    refine rn_gR (c := 9) (f := 17) rfl rfl ⟨⟨rfl, rfl⟩, rfl⟩ hr8 ?_
    refine rn_steps 2 78 [.ref l0, .int l1, .int l2, x3] [.int 45, .ref r8, .int 45, .ref r8] rfl ?_
    obtain ⟨v9, hv9, h⟩ := Option.bind_eq_some_iff.mp h
    refine rn_aI rfl hv9 ?_
    refine rn_steps 2 81 [.ref l0, .int l1, .int l2, x3] [.int (v9 + 1), .int 45, .ref r8] rfl ?_
    obtain ⟨σ10, hσ10, h⟩ := Option.bind_eq_some_iff.mp h
    refine rn_tI rfl hσ10 ?_
    refine rn_steps 0 82 [.ref l0, .int l1, .int l2, x3] [] rfl ?_
    exact e196_82 d _ _ _ _ _ _ h
noncomputable def f196_11 : Nat → Nat → Int32 → Int32 → Int32 → xM → Option xM
  | 0, _, _, _, _, _ => none
  | n + 1, l0, l1, l2, l3, σ =>
    (gR σ l0 9 3).bind fun r1 =>
    (gI σ r1 8 2).bind fun v2 =>
    if v2 ≤ l3 then
    f196_40 l0 l1 l2 σ
    else
    (gR σ l0 9 17).bind fun r3 =>
    (gR σ l0 9 23).bind fun r4 =>
    (aI σ r4 l3).bind fun v5 =>
    (tI σ r3 l3 v5).bind fun σ6 =>
    (f196_11 n) l0 l1 l2 (l3 + 1) σ6
set_option maxRecDepth 20000 in
set_option maxHeartbeats 1000000 in
theorem e196_11 (d : Nat) : ∀ (n : Nat) (l0 : Nat) (l1 : Int32) (l2 : Int32) (l3 : Int32) (σ : xM) (y : xM), f196_11 n l0 l1 l2 l3 σ = some y → Rn (d + 4) 196 11 [.ref l0, .int l1, .int l2, .int l3] [] σ (none, y) := by
  intro n
  induction n with
  | zero => intro l0 l1 l2 l3 σ y h; cases h
  | succ n ih =>
    intro l0 l1 l2 l3 σ y h
    unfold f196_11 at h
    refine rn_steps 2 13 [.ref l0, .int l1, .int l2, .int l3] [.ref l0, .int l3] rfl ?_
    obtain ⟨r1, hr1, h⟩ := Option.bind_eq_some_iff.mp h
    refine rn_gR (c := 9) (f := 3) rfl rfl ⟨⟨rfl, rfl⟩, rfl⟩ hr1 ?_
    refine rn_steps 0 16 [.ref l0, .int l1, .int l2, .int l3] [.ref r1, .int l3] rfl ?_
    obtain ⟨v2, hv2, h⟩ := Option.bind_eq_some_iff.mp h
    refine rn_gI (c := 8) (f := 2) rfl rfl ⟨⟨rfl, rfl⟩, Or.inl rfl⟩ hv2 ?_
    refine rn_steps 0 19 [.ref l0, .int l1, .int l2, .int l3] [.int v2, .int l3] rfl ?_
    refine rn_br (c := v2 ≤ l3) rfl rfl decide_eq_true_iff (fun hb => ?_) (fun hb => ?_)
    · rw [if_pos hb] at h
      refine rn_steps 0 40 [.ref l0, .int l1, .int l2, .int l3] [] rfl ?_
      exact e196_40 d _ _ _ _ _ _ h
    · rw [if_neg hb] at h
      refine rn_steps 1 23 [.ref l0, .int l1, .int l2, .int l3] [.ref l0] rfl ?_
      obtain ⟨r3, hr3, h⟩ := Option.bind_eq_some_iff.mp h
      refine rn_gR (c := 9) (f := 17) rfl rfl ⟨⟨rfl, rfl⟩, rfl⟩ hr3 ?_
      refine rn_steps 2 28 [.ref l0, .int l1, .int l2, .int l3] [.ref l0, .int l3, .ref r3] rfl ?_
      obtain ⟨r4, hr4, h⟩ := Option.bind_eq_some_iff.mp h
      refine rn_gR (c := 9) (f := 23) rfl rfl ⟨⟨rfl, rfl⟩, rfl⟩ hr4 ?_
      refine rn_steps 1 32 [.ref l0, .int l1, .int l2, .int l3] [.int l3, .ref r4, .int l3, .ref r3] rfl ?_
      obtain ⟨v5, hv5, h⟩ := Option.bind_eq_some_iff.mp h
      refine rn_aI rfl hv5 ?_
      refine rn_steps 0 33 [.ref l0, .int l1, .int l2, .int l3] [.int v5, .int l3, .ref r3] rfl ?_
      obtain ⟨σ6, hσ6, h⟩ := Option.bind_eq_some_iff.mp h
      refine rn_tI rfl hσ6 ?_
      refine rn_steps 2 11 [.ref l0, .int l1, .int l2, .int (l3 + 1)] [] rfl ?_
      exact ih _ _ _ _ _ _ h
/-- LastAskedModel.dieAll(IZ)V -/
noncomputable def f196 (l0 : Nat) (l1 : Int32) (l2 : Int32) (σ : xM) : Option xM :=
  (cO σ l0 9).bind fun u4 =>
  (f193 l0 σ).bind fun y1 =>
  (cO y1 l0 9).bind fun u3 =>
  (f195 l0 l1 y1).bind fun y2 =>
  f196_11 1100 l0 l1 l2 0 y2
set_option maxRecDepth 20000 in
set_option maxHeartbeats 1000000 in
theorem e196 (d : Nat) {l0 : Nat} {l1 : Int32} {l2 : Int32} {σ : xM} {y : xM} (h : f196 l0 l1 l2 σ = some y) : Rn (d + 4) 196 0 [.ref l0, .int l1, .int l2, .retAddr 0] [] σ (none, y) := by
  unfold f196 at h
  refine rn_steps 1 1 [.ref l0, .int l1, .int l2, .retAddr 0] [.ref l0] rfl ?_
  obtain ⟨u4, hu4, h⟩ := Option.bind_eq_some_iff.mp h
  obtain ⟨y1, hy1, h⟩ := Option.bind_eq_some_iff.mp h
  refine rn_callV [] rfl rfl ⟨rfl, rfl⟩ hu4 rfl rfl (e193 d hy1) ?_
  refine rn_steps 2 6 [.ref l0, .int l1, .int l2, .retAddr 0] [.int l1, .ref l0] rfl ?_
  obtain ⟨u3, hu3, h⟩ := Option.bind_eq_some_iff.mp h
  obtain ⟨y2, hy2, h⟩ := Option.bind_eq_some_iff.mp h
  refine rn_callV [.int l1] rfl rfl ⟨rfl, rfl⟩ hu3 rfl rfl (e195 (d + 1) hy2) ?_
  refine rn_steps 2 11 [.ref l0, .int l1, .int l2, .int 0] [] rfl ?_
  exact e196_11 d 1100 _ _ _ _ _ _ h
/-- LastAskedModel.worksWithHeirs()V -/
noncomputable def f197 (l0 : Nat) (σ : xM) : Option xM :=
  (cO σ l0 9).bind fun u4 =>
  (f188 l0 σ).bind fun y1 =>
  (cO y1 l0 9).bind fun u3 =>
  (f193 l0 y1).bind fun y2 =>
  some y2
set_option maxRecDepth 20000 in
set_option maxHeartbeats 1000000 in
theorem e197 (d : Nat) {l0 : Nat} {σ : xM} {y : xM} (h : f197 l0 σ = some y) : Rn (d + 4) 197 0 [.ref l0] [] σ (none, y) := by
  unfold f197 at h
  refine rn_steps 1 1 [.ref l0] [.ref l0] rfl ?_
  obtain ⟨u4, hu4, h⟩ := Option.bind_eq_some_iff.mp h
  obtain ⟨y1, hy1, h⟩ := Option.bind_eq_some_iff.mp h
  refine rn_callV [] rfl rfl ⟨rfl, rfl⟩ hu4 rfl rfl (e188 (d + 3) hy1) ?_
  refine rn_steps 1 5 [.ref l0] [.ref l0] rfl ?_
  obtain ⟨u3, hu3, h⟩ := Option.bind_eq_some_iff.mp h
  obtain ⟨y2, hy2, h⟩ := Option.bind_eq_some_iff.mp h
  refine rn_callV [] rfl rfl ⟨rfl, rfl⟩ hu3 rfl rfl (e193 d hy2) ?_
  refine rn_steps 0 8 [.ref l0] [] rfl ?_
  cases h
  exact rn_ret rfl rfl rfl
/-- LastAskedModel.near(I)I -/
noncomputable def f198 (l0 : Nat) (l1 : Int32) (σ : xM) : Option (Int32 × xM) :=
  (gR σ l0 9 3).bind fun r1 =>
  (gR σ r1 8 10).bind fun r2 =>
  (aI σ r2 l1).bind fun v3 =>
  some (v3, σ)
set_option maxRecDepth 20000 in
set_option maxHeartbeats 1000000 in
theorem e198 (d : Nat) {l0 : Nat} {l1 : Int32} {σ : xM} {y : Int32 × xM} (h : f198 l0 l1 σ = some y) : Rn (d + 0) 198 0 [.ref l0, .int l1] [] σ (some (.int y.1), y.2) := by
  unfold f198 at h
  refine rn_steps 1 1 [.ref l0, .int l1] [.ref l0] rfl ?_
  obtain ⟨r1, hr1, h⟩ := Option.bind_eq_some_iff.mp h
  refine rn_gR (c := 9) (f := 3) rfl rfl ⟨⟨rfl, rfl⟩, rfl⟩ hr1 ?_
  refine rn_steps 0 4 [.ref l0, .int l1] [.ref r1] rfl ?_
  obtain ⟨r2, hr2, h⟩ := Option.bind_eq_some_iff.mp h
  refine rn_gR (c := 8) (f := 10) rfl rfl ⟨⟨rfl, rfl⟩, rfl⟩ hr2 ?_
  refine rn_steps 1 8 [.ref l0, .int l1] [.int l1, .ref r2] rfl ?_
  obtain ⟨v3, hv3, h⟩ := Option.bind_eq_some_iff.mp h
  refine rn_aI rfl hv3 ?_
  refine rn_steps 0 9 [.ref l0, .int l1] [.int v3] rfl ?_
  cases h
  exact rn_ret rfl rfl rfl
noncomputable def f199_76 (l2 : Int32) (σ : xM) : Option (Int32 × xM) :=
  some (l2, σ)
set_option maxRecDepth 20000 in
set_option maxHeartbeats 1000000 in
theorem e199_76 (d : Nat) (l2 : Int32) (x0 x1 x3 : Value) (σ : xM) (y : Int32 × xM) (h : f199_76 l2 σ = some y) : Rn (d + 2) 199 76 [x0, x1, .int l2, x3] [] σ (some (.int y.1), y.2) := by
  unfold f199_76 at h
  refine rn_steps 1 77 [x0, x1, .int l2, x3] [.int l2] rfl ?_
  cases h
  exact rn_ret rfl rfl rfl
noncomputable def f199_68 (K4 : Nat → Int32 → Int32 → Int32 → xM → Option (Int32 × xM)) (l0 : Nat) (l1 : Int32) (l3 : Int32) (s0 : Int32) (s1 : Int32) (σ : xM) : Option (Int32 × xM) :=
  K4 l0 l1 (s1 ||| s0) (l3 + 1) σ
set_option maxRecDepth 20000 in
set_option maxHeartbeats 1000000 in
theorem e199_68 (d : Nat) (K4 : Nat → Int32 → Int32 → Int32 → xM → Option (Int32 × xM)) (hK4 : ∀ (l0 : Nat) (l1 : Int32) (l2 : Int32) (l3 : Int32) (σ : xM) (y : Int32 × xM), K4 l0 l1 l2 l3 σ = some y → Rn (d + 2) 199 4 [.ref l0, .int l1, .int l2, .int l3] [] σ (some (.int y.1), y.2)) (l0 : Nat) (l1 : Int32) (l3 : Int32) (s0 : Int32) (s1 : Int32) (x2 : Value) (σ : xM) (y : Int32 × xM) (h : f199_68 K4 l0 l1 l3 s0 s1 σ = some y) : Rn (d + 2) 199 68 [.ref l0, .int l1, x2, .int l3] [.int s0, .int s1] σ (some (.int y.1), y.2) := by
  unfold f199_68 at h
  refine rn_steps 4 4 [.ref l0, .int l1, .int (s1 ||| s0), .int (l3 + 1)] [] rfl ?_
  exact hK4 _ _ _ _ _ _ h
noncomputable def f199_67 (K4 : Nat → Int32 → Int32 → Int32 → xM → Option (Int32 × xM)) (l0 : Nat) (l1 : Int32) (l3 : Int32) (s0 : Int32) (σ : xM) : Option (Int32 × xM) :=
  f199_68 K4 l0 l1 l3 0 s0 σ
set_option maxRecDepth 20000 in
set_option maxHeartbeats 1000000 in
theorem e199_67 (d : Nat) (K4 : Nat → Int32 → Int32 → Int32 → xM → Option (Int32 × xM)) (hK4 : ∀ (l0 : Nat) (l1 : Int32) (l2 : Int32) (l3 : Int32) (σ : xM) (y : Int32 × xM), K4 l0 l1 l2 l3 σ = some y → Rn (d + 2) 199 4 [.ref l0, .int l1, .int l2, .int l3] [] σ (some (.int y.1), y.2)) (l0 : Nat) (l1 : Int32) (l3 : Int32) (s0 : Int32) (x2 : Value) (σ : xM) (y : Int32 × xM) (h : f199_67 K4 l0 l1 l3 s0 σ = some y) : Rn (d + 2) 199 67 [.ref l0, .int l1, x2, .int l3] [.int s0] σ (some (.int y.1), y.2) := by
  unfold f199_67 at h
  refine rn_steps 1 68 [.ref l0, .int l1, x2, .int l3] [.int 0, .int s0] rfl ?_
  exact e199_68 d _ hK4 _ _ _ _ _ _ _ _ h
noncomputable def f199_4 : Nat → Nat → Int32 → Int32 → Int32 → xM → Option (Int32 × xM)
  | 0, _, _, _, _, _ => none
  | n + 1, l0, l1, l2, l3, σ =>
    (gR σ l0 9 3).bind fun r1 =>
    (gI σ r1 8 2).bind fun v2 =>
    if v2 ≤ l3 then
    f199_76 l2 σ
    else
    if l3 = l1 then
    f199_67 (f199_4 n) l0 l1 l3 l2 σ
    else
    (gR σ l0 9 16).bind fun r3 =>
    (aI σ r3 42).bind fun v4 =>
    (f157 v4 l1 σ).bind fun y5 =>
    if y5.1 = 0 then
    f199_67 (f199_4 n) l0 l1 l3 l2 y5.2
    else
    (gR y5.2 l0 9 16).bind fun r6 =>
    (aI y5.2 r6 42).bind fun v7 =>
    (f157 v7 l3 y5.2).bind fun y8 =>
    if y8.1 = 0 then
    f199_67 (f199_4 n) l0 l1 l3 l2 y8.2
    else
    (gR y8.2 l0 9 3).bind fun r9 =>
    (cO y8.2 r9 8).bind fun u11 =>
    (f148 r9 l1 l3 y8.2).bind fun y10 =>
    if y10.1 = 0 then
    f199_67 (f199_4 n) l0 l1 l3 l2 y10.2
    else
    f199_68 (f199_4 n) l0 l1 l3 (1 <<< (l3 &&& 31)) l2 y10.2
set_option maxRecDepth 20000 in
set_option maxHeartbeats 1000000 in
theorem e199_4 (d : Nat) : ∀ (n : Nat) (l0 : Nat) (l1 : Int32) (l2 : Int32) (l3 : Int32) (σ : xM) (y : Int32 × xM), f199_4 n l0 l1 l2 l3 σ = some y → Rn (d + 2) 199 4 [.ref l0, .int l1, .int l2, .int l3] [] σ (some (.int y.1), y.2) := by
  intro n
  induction n with
  | zero => intro l0 l1 l2 l3 σ y h; cases h
  | succ n ih =>
    intro l0 l1 l2 l3 σ y h
    unfold f199_4 at h
    refine rn_steps 2 6 [.ref l0, .int l1, .int l2, .int l3] [.ref l0, .int l3] rfl ?_
    obtain ⟨r1, hr1, h⟩ := Option.bind_eq_some_iff.mp h
    refine rn_gR (c := 9) (f := 3) rfl rfl ⟨⟨rfl, rfl⟩, rfl⟩ hr1 ?_
    refine rn_steps 0 9 [.ref l0, .int l1, .int l2, .int l3] [.ref r1, .int l3] rfl ?_
    obtain ⟨v2, hv2, h⟩ := Option.bind_eq_some_iff.mp h
    refine rn_gI (c := 8) (f := 2) rfl rfl ⟨⟨rfl, rfl⟩, Or.inl rfl⟩ hv2 ?_
    refine rn_steps 0 12 [.ref l0, .int l1, .int l2, .int l3] [.int v2, .int l3] rfl ?_
    refine rn_br (c := v2 ≤ l3) rfl rfl decide_eq_true_iff (fun hb => ?_) (fun hb => ?_)
    · rw [if_pos hb] at h
      refine rn_steps 0 76 [.ref l0, .int l1, .int l2, .int l3] [] rfl ?_
      exact e199_76 d _ _ _ _ _ _ h
    · rw [if_neg hb] at h
      refine rn_steps 3 18 [.ref l0, .int l1, .int l2, .int l3] [.int l1, .int l3, .int l2] rfl ?_
      refine rn_br (c := l3 = l1) rfl rfl decide_eq_true_iff (fun hb => ?_) (fun hb => ?_)
      · rw [if_pos hb] at h
        refine rn_steps 0 67 [.ref l0, .int l1, .int l2, .int l3] [.int l2] rfl ?_
        exact e199_67 d _ ih _ _ _ _ _ _ _ h
      · rw [if_neg hb] at h
        refine rn_steps 1 22 [.ref l0, .int l1, .int l2, .int l3] [.ref l0, .int l2] rfl ?_
        obtain ⟨r3, hr3, h⟩ := Option.bind_eq_some_iff.mp h
        refine rn_gR (c := 9) (f := 16) rfl rfl ⟨⟨rfl, rfl⟩, rfl⟩ hr3 ?_
        refine rn_steps 1 27 [.ref l0, .int l1, .int l2, .int l3] [.int 42, .ref r3, .int l2] rfl ?_
        obtain ⟨v4, hv4, h⟩ := Option.bind_eq_some_iff.mp h
        refine rn_aI rfl hv4 ?_
        refine rn_steps 1 29 [.ref l0, .int l1, .int l2, .int l3] [.int l1, .int v4, .int l2] rfl ?_
        obtain ⟨y5, hy5, h⟩ := Option.bind_eq_some_iff.mp h
        refine rn_callS [.int v4, .int l1] rfl rfl rfl ⟨rfl, rfl, rfl⟩ rfl rfl (e157 (d + 1) hy5) ?_
        refine rn_steps 0 32 [.ref l0, .int l1, .int l2, .int l3] [.int y5.1, .int l2] rfl ?_
        refine rn_br (c := y5.1 = 0) rfl rfl decide_eq_true_iff (fun hb => ?_) (fun hb => ?_)
        · rw [if_pos hb] at h
          refine rn_steps 0 67 [.ref l0, .int l1, .int l2, .int l3] [.int l2] rfl ?_
          exact e199_67 d _ ih _ _ _ _ _ _ _ h
        · rw [if_neg hb] at h
          refine rn_steps 1 36 [.ref l0, .int l1, .int l2, .int l3] [.ref l0, .int l2] rfl ?_
          obtain ⟨r6, hr6, h⟩ := Option.bind_eq_some_iff.mp h
          refine rn_gR (c := 9) (f := 16) rfl rfl ⟨⟨rfl, rfl⟩, rfl⟩ hr6 ?_
          refine rn_steps 1 41 [.ref l0, .int l1, .int l2, .int l3] [.int 42, .ref r6, .int l2] rfl ?_
          obtain ⟨v7, hv7, h⟩ := Option.bind_eq_some_iff.mp h
          refine rn_aI rfl hv7 ?_
          refine rn_steps 1 43 [.ref l0, .int l1, .int l2, .int l3] [.int l3, .int v7, .int l2] rfl ?_
          obtain ⟨y8, hy8, h⟩ := Option.bind_eq_some_iff.mp h
          refine rn_callS [.int v7, .int l3] rfl rfl rfl ⟨rfl, rfl, rfl⟩ rfl rfl (e157 (d + 1) hy8) ?_
          refine rn_steps 0 46 [.ref l0, .int l1, .int l2, .int l3] [.int y8.1, .int l2] rfl ?_
          refine rn_br (c := y8.1 = 0) rfl rfl decide_eq_true_iff (fun hb => ?_) (fun hb => ?_)
          · rw [if_pos hb] at h
            refine rn_steps 0 67 [.ref l0, .int l1, .int l2, .int l3] [.int l2] rfl ?_
            exact e199_67 d _ ih _ _ _ _ _ _ _ h
          · rw [if_neg hb] at h
            refine rn_steps 1 50 [.ref l0, .int l1, .int l2, .int l3] [.ref l0, .int l2] rfl ?_
            obtain ⟨r9, hr9, h⟩ := Option.bind_eq_some_iff.mp h
            refine rn_gR (c := 9) (f := 3) rfl rfl ⟨⟨rfl, rfl⟩, rfl⟩ hr9 ?_
            refine rn_steps 2 55 [.ref l0, .int l1, .int l2, .int l3] [.int l3, .int l1, .ref r9, .int l2] rfl ?_
            obtain ⟨u11, hu11, h⟩ := Option.bind_eq_some_iff.mp h
            obtain ⟨y10, hy10, h⟩ := Option.bind_eq_some_iff.mp h
            refine rn_callV [.int l1, .int l3] rfl rfl ⟨rfl, rfl⟩ hu11 rfl rfl (e148 d hy10) ?_
            refine rn_steps 0 58 [.ref l0, .int l1, .int l2, .int l3] [.int y10.1, .int l2] rfl ?_
            refine rn_br (c := y10.1 = 0) rfl rfl decide_eq_true_iff (fun hb => ?_) (fun hb => ?_)
            · rw [if_pos hb] at h
              refine rn_steps 0 67 [.ref l0, .int l1, .int l2, .int l3] [.int l2] rfl ?_
              exact e199_67 d _ ih _ _ _ _ _ _ _ h
            · rw [if_neg hb] at h
              refine rn_steps 4 68 [.ref l0, .int l1, .int l2, .int l3] [.int (1 <<< (l3 &&& 31)), .int l2] rfl ?_
              exact e199_68 d _ ih _ _ _ _ _ _ _ _ h
/-- LastAskedModel.canAsk(I)I -/
noncomputable def f199 (l0 : Nat) (l1 : Int32) (σ : xM) : Option (Int32 × xM) :=
  f199_4 1100 l0 l1 0 0 σ
set_option maxRecDepth 20000 in
set_option maxHeartbeats 1000000 in
theorem e199 (d : Nat) {l0 : Nat} {l1 : Int32} {σ : xM} {y : Int32 × xM} (h : f199 l0 l1 σ = some y) : Rn (d + 2) 199 0 [.ref l0, .int l1, .retAddr 0, .retAddr 0] [] σ (some (.int y.1), y.2) := by
  unfold f199 at h
  refine rn_steps 4 4 [.ref l0, .int l1, .int 0, .int 0] [] rfl ?_
  exact e199_4 d 1100 _ _ _ _ _ _ h
noncomputable def f200_48 (l2 : Int32) (σ : xM) : Option (Int32 × xM) :=
  some (l2, σ)
set_option maxRecDepth 20000 in
set_option maxHeartbeats 1000000 in
theorem e200_48 (d : Nat) (l2 : Int32) (x0 x1 x3 : Value) (σ : xM) (y : Int32 × xM) (h : f200_48 l2 σ = some y) : Rn (d + 3) 200 48 [x0, x1, .int l2, x3] [] σ (some (.int y.1), y.2) := by
  unfold f200_48 at h
  refine rn_steps 1 49 [x0, x1, .int l2, x3] [.int l2] rfl ?_
  cases h
  exact rn_ret rfl rfl rfl
noncomputable def f200_40 (K4 : Nat → Int32 → Int32 → Int32 → xM → Option (Int32 × xM)) (l0 : Nat) (l1 : Int32) (l3 : Int32) (s0 : Int32) (s1 : Int32) (σ : xM) : Option (Int32 × xM) :=
  K4 l0 l1 (s1 ||| s0) (l3 + 1) σ
set_option maxRecDepth 20000 in
set_option maxHeartbeats 1000000 in
theorem e200_40 (d : Nat) (K4 : Nat → Int32 → Int32 → Int32 → xM → Option (Int32 × xM)) (hK4 : ∀ (l0 : Nat) (l1 : Int32) (l2 : Int32) (l3 : Int32) (σ : xM) (y : Int32 × xM), K4 l0 l1 l2 l3 σ = some y → Rn (d + 3) 200 4 [.ref l0, .int l1, .int l2, .int l3] [] σ (some (.int y.1), y.2)) (l0 : Nat) (l1 : Int32) (l3 : Int32) (s0 : Int32) (s1 : Int32) (x2 : Value) (σ : xM) (y : Int32 × xM) (h : f200_40 K4 l0 l1 l3 s0 s1 σ = some y) : Rn (d + 3) 200 40 [.ref l0, .int l1, x2, .int l3] [.int s0, .int s1] σ (some (.int y.1), y.2) := by
  unfold f200_40 at h
  refine rn_steps 4 4 [.ref l0, .int l1, .int (s1 ||| s0), .int (l3 + 1)] [] rfl ?_
  exact hK4 _ _ _ _ _ _ h
noncomputable def f200_39 (K4 : Nat → Int32 → Int32 → Int32 → xM → Option (Int32 × xM)) (l0 : Nat) (l1 : Int32) (l3 : Int32) (s0 : Int32) (σ : xM) : Option (Int32 × xM) :=
  f200_40 K4 l0 l1 l3 0 s0 σ
set_option maxRecDepth 20000 in
set_option maxHeartbeats 1000000 in
theorem e200_39 (d : Nat) (K4 : Nat → Int32 → Int32 → Int32 → xM → Option (Int32 × xM)) (hK4 : ∀ (l0 : Nat) (l1 : Int32) (l2 : Int32) (l3 : Int32) (σ : xM) (y : Int32 × xM), K4 l0 l1 l2 l3 σ = some y → Rn (d + 3) 200 4 [.ref l0, .int l1, .int l2, .int l3] [] σ (some (.int y.1), y.2)) (l0 : Nat) (l1 : Int32) (l3 : Int32) (s0 : Int32) (x2 : Value) (σ : xM) (y : Int32 × xM) (h : f200_39 K4 l0 l1 l3 s0 σ = some y) : Rn (d + 3) 200 39 [.ref l0, .int l1, x2, .int l3] [.int s0] σ (some (.int y.1), y.2) := by
  unfold f200_39 at h
  refine rn_steps 1 40 [.ref l0, .int l1, x2, .int l3] [.int 0, .int s0] rfl ?_
  exact e200_40 d _ hK4 _ _ _ _ _ _ _ _ h
noncomputable def f200_4 : Nat → Nat → Int32 → Int32 → Int32 → xM → Option (Int32 × xM)
  | 0, _, _, _, _, _ => none
  | n + 1, l0, l1, l2, l3, σ =>
    (gR σ l0 9 3).bind fun r1 =>
    (gI σ r1 8 2).bind fun v2 =>
    if v2 ≤ l3 then
    f200_48 l2 σ
    else
    if l3 = l1 then
    f200_39 (f200_4 n) l0 l1 l3 l2 σ
    else
    (cO σ l0 9).bind fun u5 =>
    (f199 l0 l3 σ).bind fun y3 =>
    (f157 y3.1 l1 y3.2).bind fun y4 =>
    if y4.1 = 0 then
    f200_39 (f200_4 n) l0 l1 l3 l2 y4.2
    else
    f200_40 (f200_4 n) l0 l1 l3 (1 <<< (l3 &&& 31)) l2 y4.2
set_option maxRecDepth 20000 in
set_option maxHeartbeats 1000000 in
theorem e200_4 (d : Nat) : ∀ (n : Nat) (l0 : Nat) (l1 : Int32) (l2 : Int32) (l3 : Int32) (σ : xM) (y : Int32 × xM), f200_4 n l0 l1 l2 l3 σ = some y → Rn (d + 3) 200 4 [.ref l0, .int l1, .int l2, .int l3] [] σ (some (.int y.1), y.2) := by
  intro n
  induction n with
  | zero => intro l0 l1 l2 l3 σ y h; cases h
  | succ n ih =>
    intro l0 l1 l2 l3 σ y h
    unfold f200_4 at h
    refine rn_steps 2 6 [.ref l0, .int l1, .int l2, .int l3] [.ref l0, .int l3] rfl ?_
    obtain ⟨r1, hr1, h⟩ := Option.bind_eq_some_iff.mp h
    refine rn_gR (c := 9) (f := 3) rfl rfl ⟨⟨rfl, rfl⟩, rfl⟩ hr1 ?_
    refine rn_steps 0 9 [.ref l0, .int l1, .int l2, .int l3] [.ref r1, .int l3] rfl ?_
    obtain ⟨v2, hv2, h⟩ := Option.bind_eq_some_iff.mp h
    refine rn_gI (c := 8) (f := 2) rfl rfl ⟨⟨rfl, rfl⟩, Or.inl rfl⟩ hv2 ?_
    refine rn_steps 0 12 [.ref l0, .int l1, .int l2, .int l3] [.int v2, .int l3] rfl ?_
    refine rn_br (c := v2 ≤ l3) rfl rfl decide_eq_true_iff (fun hb => ?_) (fun hb => ?_)
    · rw [if_pos hb] at h
      refine rn_steps 0 48 [.ref l0, .int l1, .int l2, .int l3] [] rfl ?_
      exact e200_48 d _ _ _ _ _ _ h
    · rw [if_neg hb] at h
      refine rn_steps 3 18 [.ref l0, .int l1, .int l2, .int l3] [.int l1, .int l3, .int l2] rfl ?_
      refine rn_br (c := l3 = l1) rfl rfl decide_eq_true_iff (fun hb => ?_) (fun hb => ?_)
      · rw [if_pos hb] at h
        refine rn_steps 0 39 [.ref l0, .int l1, .int l2, .int l3] [.int l2] rfl ?_
        exact e200_39 d _ ih _ _ _ _ _ _ _ h
      · rw [if_neg hb] at h
        refine rn_steps 2 23 [.ref l0, .int l1, .int l2, .int l3] [.int l3, .ref l0, .int l2] rfl ?_
        obtain ⟨u5, hu5, h⟩ := Option.bind_eq_some_iff.mp h
        obtain ⟨y3, hy3, h⟩ := Option.bind_eq_some_iff.mp h
        refine rn_callV [.int l3] rfl rfl ⟨rfl, rfl⟩ hu5 rfl rfl (e199 d hy3) ?_
        refine rn_steps 1 27 [.ref l0, .int l1, .int l2, .int l3] [.int l1, .int y3.1, .int l2] rfl ?_
        obtain ⟨y4, hy4, h⟩ := Option.bind_eq_some_iff.mp h
        refine rn_callS [.int y3.1, .int l1] rfl rfl rfl ⟨rfl, rfl, rfl⟩ rfl rfl (e157 (d + 2) hy4) ?_
        refine rn_steps 0 30 [.ref l0, .int l1, .int l2, .int l3] [.int y4.1, .int l2] rfl ?_
        refine rn_br (c := y4.1 = 0) rfl rfl decide_eq_true_iff (fun hb => ?_) (fun hb => ?_)
        · rw [if_pos hb] at h
          refine rn_steps 0 39 [.ref l0, .int l1, .int l2, .int l3] [.int l2] rfl ?_
          exact e200_39 d _ ih _ _ _ _ _ _ _ h
        · rw [if_neg hb] at h
          refine rn_steps 4 40 [.ref l0, .int l1, .int l2, .int l3] [.int (1 <<< (l3 &&& 31)), .int l2] rfl ?_
          exact e200_40 d _ ih _ _ _ _ _ _ _ _ h
/-- LastAskedModel.canBeAsked(I)I -/
noncomputable def f200 (l0 : Nat) (l1 : Int32) (σ : xM) : Option (Int32 × xM) :=
  f200_4 1100 l0 l1 0 0 σ
set_option maxRecDepth 20000 in
set_option maxHeartbeats 1000000 in
theorem e200 (d : Nat) {l0 : Nat} {l1 : Int32} {σ : xM} {y : Int32 × xM} (h : f200 l0 l1 σ = some y) : Rn (d + 3) 200 0 [.ref l0, .int l1, .retAddr 0, .retAddr 0] [] σ (some (.int y.1), y.2) := by
  unfold f200 at h
  refine rn_steps 4 4 [.ref l0, .int l1, .int 0, .int 0] [] rfl ?_
  exact e200_4 d 1100 _ _ _ _ _ _ h
noncomputable def f201_23 (l0 : Nat) (σ : xM) : Option (Int32 × xM) :=
  (cO σ l0 9).bind fun u2 =>
  (f151 l0 1 σ).bind fun y1 =>
  some (y1.1, y1.2)
set_option maxRecDepth 20000 in
set_option maxHeartbeats 1000000 in
theorem e201_23 (d : Nat) (l0 : Nat) (x1 x2 : Value) (σ : xM) (y : Int32 × xM) (h : f201_23 l0 σ = some y) : Rn (d + 4) 201 23 [.ref l0, x1, x2] [] σ (some (.int y.1), y.2) := by
  unfold f201_23 at h
  refine rn_steps 2 25 [.ref l0, x1, x2] [.int 1, .ref l0] rfl ?_
  obtain ⟨u2, hu2, h⟩ := Option.bind_eq_some_iff.mp h
  obtain ⟨y1, hy1, h⟩ := Option.bind_eq_some_iff.mp h
  refine rn_callV [.int 1] rfl rfl ⟨rfl, rfl⟩ hu2 rfl rfl (e151 (d + 3) hy1) ?_
  refine rn_steps 0 28 [.ref l0, x1, x2] [.int y1.1] rfl ?_
  cases h
  exact rn_ret rfl rfl rfl
/-- LastAskedModel.person(II)I -/
noncomputable def f201 (l0 : Nat) (l1 : Int32) (l2 : Int32) (σ : xM) : Option (Int32 × xM) :=
  (pI σ l0 9 0 0).bind fun σ1 =>
  (cO σ1 l0 9).bind fun u34 =>
  (f186 l0 l1 σ1).bind fun y2 =>
  if y2.1 = 0 then
  f201_23 l0 y2.2
  else
  (f156 l2 0 6 y2.2).bind fun y3 =>
  if y3.1 = 0 then
  f201_23 l0 y3.2
  else
  if l2 = 0 then
  (gR y3.2 l0 9 3).bind fun r4 =>
  (gR y3.2 r4 8 7).bind fun r5 =>
  (aI y3.2 r5 l1).bind fun v6 =>
  (cO y3.2 l0 9).bind fun u8 =>
  (f154 l0 v6 y3.2).bind fun y7 =>
  some (y7.1, y7.2)
  else
  if l2 = 1 then
  (gR y3.2 l0 9 16).bind fun r9 =>
  (aI y3.2 r9 l1).bind fun v10 =>
  (cO y3.2 l0 9).bind fun u12 =>
  (f154 l0 v10 y3.2).bind fun y11 =>
  some (y11.1, y11.2)
  else
  if l2 = 2 then
  (gR y3.2 l0 9 3).bind fun r13 =>
  (gR y3.2 r13 8 9).bind fun r14 =>
  (aI y3.2 r14 l1).bind fun v15 =>
  (cO y3.2 l0 9).bind fun u17 =>
  (f154 l0 v15 y3.2).bind fun y16 =>
  some (y16.1, y16.2)
  else
  if l2 = 3 then
  (gR y3.2 l0 9 16).bind fun r18 =>
  (aI y3.2 r18 42).bind fun v19 =>
  (cO y3.2 l0 9).bind fun u21 =>
  (f154 l0 ((v19 >>> (l1 &&& 31)) &&& 1) y3.2).bind fun y20 =>
  some (y20.1, y20.2)
  else
  if l2 = 4 then
  (cO y3.2 l0 9).bind fun u25 =>
  (f198 l0 l1 y3.2).bind fun y22 =>
  (cO y22.2 l0 9).bind fun u24 =>
  (f154 l0 y22.1 y22.2).bind fun y23 =>
  some (y23.1, y23.2)
  else
  if l2 = 5 then
  (cO y3.2 l0 9).bind fun u29 =>
  (f199 l0 l1 y3.2).bind fun y26 =>
  (cO y26.2 l0 9).bind fun u28 =>
  (f154 l0 y26.1 y26.2).bind fun y27 =>
  some (y27.1, y27.2)
  else
  (cO y3.2 l0 9).bind fun u33 =>
  (f200 l0 l1 y3.2).bind fun y30 =>
  (cO y30.2 l0 9).bind fun u32 =>
  (f154 l0 y30.1 y30.2).bind fun y31 =>
  some (y31.1, y31.2)
set_option maxRecDepth 20000 in
set_option maxHeartbeats 1000000 in
theorem e201 (d : Nat) {l0 : Nat} {l1 : Int32} {l2 : Int32} {σ : xM} {y : Int32 × xM} (h : f201 l0 l1 l2 σ = some y) : Rn (d + 4) 201 0 [.ref l0, .int l1, .int l2] [] σ (some (.int y.1), y.2) := by
  unfold f201 at h
  refine rn_steps 2 2 [.ref l0, .int l1, .int l2] [.int 0, .ref l0] rfl ?_
  obtain ⟨σ1, hσ1, h⟩ := Option.bind_eq_some_iff.mp h
  refine rn_pI (c := 9) (f := 0) rfl rfl ⟨⟨rfl, rfl⟩, rfl⟩ hσ1 ?_
  refine rn_steps 2 7 [.ref l0, .int l1, .int l2] [.int l1, .ref l0] rfl ?_
  obtain ⟨u34, hu34, h⟩ := Option.bind_eq_some_iff.mp h
  obtain ⟨y2, hy2, h⟩ := Option.bind_eq_some_iff.mp h
  refine rn_callV [.int l1] rfl rfl ⟨rfl, rfl⟩ hu34 rfl rfl (e186 (d + 3) hy2) ?_
  refine rn_steps 0 10 [.ref l0, .int l1, .int l2] [.int y2.1] rfl ?_
  refine rn_br (c := y2.1 = 0) rfl rfl decide_eq_true_iff (fun hb => ?_) (fun hb => ?_)
  · rw [if_pos hb] at h
    refine rn_steps 0 23 [.ref l0, .int l1, .int l2] [] rfl ?_
    exact e201_23 d _ _ _ _ _ h
  · rw [if_neg hb] at h
    refine rn_steps 3 17 [.ref l0, .int l1, .int l2] [.int 6, .int 0, .int l2] rfl ?_
    obtain ⟨y3, hy3, h⟩ := Option.bind_eq_some_iff.mp h
    refine rn_callS [.int l2, .int 0, .int 6] rfl rfl rfl ⟨rfl, rfl, rfl⟩ rfl rfl (e156 (d + 3) hy3) ?_
    refine rn_steps 0 20 [.ref l0, .int l1, .int l2] [.int y3.1] rfl ?_
    refine rn_br (c := ¬ y3.1 = 0) rfl rfl decide_eq_true_iff (fun hb => ?_) (fun hb => ?_)
    · rw [if_neg hb] at h
      refine rn_steps 1 30 [.ref l0, .int l1, .int l2] [.int l2] rfl ?_
      by_cases hb0 : l2 = 0
      · rw [if_pos hb0] at h
        rw [hb0]
        refine rn_steps 1 68 [.ref l0, .int l1, .int 0] [] rfl ?_
        refine rn_steps 2 70 [.ref l0, .int l1, .int 0] [.ref l0, .ref l0] rfl ?_
        obtain ⟨r4, hr4, h⟩ := Option.bind_eq_some_iff.mp h
        refine rn_gR (c := 9) (f := 3) rfl rfl ⟨⟨rfl, rfl⟩, rfl⟩ hr4 ?_
        refine rn_steps 0 73 [.ref l0, .int l1, .int 0] [.ref r4, .ref l0] rfl ?_
        obtain ⟨r5, hr5, h⟩ := Option.bind_eq_some_iff.mp h
        refine rn_gR (c := 8) (f := 7) rfl rfl ⟨⟨rfl, rfl⟩, rfl⟩ hr5 ?_
        refine rn_steps 1 77 [.ref l0, .int l1, .int 0] [.int l1, .ref r5, .ref l0] rfl ?_
        obtain ⟨v6, hv6, h⟩ := Option.bind_eq_some_iff.mp h
        refine rn_aI rfl hv6 ?_
        refine rn_steps 0 78 [.ref l0, .int l1, .int 0] [.int v6, .ref l0] rfl ?_
        obtain ⟨u8, hu8, h⟩ := Option.bind_eq_some_iff.mp h
        obtain ⟨y7, hy7, h⟩ := Option.bind_eq_some_iff.mp h
        refine rn_callV [.int v6] rfl rfl ⟨rfl, rfl⟩ hu8 rfl rfl (e154 (d + 3) hy7) ?_
        refine rn_steps 0 81 [.ref l0, .int l1, .int 0] [.int y7.1] rfl ?_
        cases h
        exact rn_ret rfl rfl rfl
      · rw [if_neg hb0] at h
        by_cases hb1 : l2 = 1
        · rw [if_pos hb1] at h
          rw [hb1]
          refine rn_steps 1 82 [.ref l0, .int l1, .int 1] [] rfl ?_
          refine rn_steps 2 84 [.ref l0, .int l1, .int 1] [.ref l0, .ref l0] rfl ?_
          obtain ⟨r9, hr9, h⟩ := Option.bind_eq_some_iff.mp h
          refine rn_gR (c := 9) (f := 16) rfl rfl ⟨⟨rfl, rfl⟩, rfl⟩ hr9 ?_
          refine rn_steps 1 88 [.ref l0, .int l1, .int 1] [.int l1, .ref r9, .ref l0] rfl ?_
          obtain ⟨v10, hv10, h⟩ := Option.bind_eq_some_iff.mp h
          refine rn_aI rfl hv10 ?_
          refine rn_steps 0 89 [.ref l0, .int l1, .int 1] [.int v10, .ref l0] rfl ?_
          obtain ⟨u12, hu12, h⟩ := Option.bind_eq_some_iff.mp h
          obtain ⟨y11, hy11, h⟩ := Option.bind_eq_some_iff.mp h
          refine rn_callV [.int v10] rfl rfl ⟨rfl, rfl⟩ hu12 rfl rfl (e154 (d + 3) hy11) ?_
          refine rn_steps 0 92 [.ref l0, .int l1, .int 1] [.int y11.1] rfl ?_
          cases h
          exact rn_ret rfl rfl rfl
        · rw [if_neg hb1] at h
          by_cases hb2 : l2 = 2
          · rw [if_pos hb2] at h
            rw [hb2]
            refine rn_steps 1 93 [.ref l0, .int l1, .int 2] [] rfl ?_
            refine rn_steps 2 95 [.ref l0, .int l1, .int 2] [.ref l0, .ref l0] rfl ?_
            obtain ⟨r13, hr13, h⟩ := Option.bind_eq_some_iff.mp h
            refine rn_gR (c := 9) (f := 3) rfl rfl ⟨⟨rfl, rfl⟩, rfl⟩ hr13 ?_
            refine rn_steps 0 98 [.ref l0, .int l1, .int 2] [.ref r13, .ref l0] rfl ?_
            obtain ⟨r14, hr14, h⟩ := Option.bind_eq_some_iff.mp h
            refine rn_gR (c := 8) (f := 9) rfl rfl ⟨⟨rfl, rfl⟩, rfl⟩ hr14 ?_
            refine rn_steps 1 102 [.ref l0, .int l1, .int 2] [.int l1, .ref r14, .ref l0] rfl ?_
            obtain ⟨v15, hv15, h⟩ := Option.bind_eq_some_iff.mp h
            refine rn_aI rfl hv15 ?_
            refine rn_steps 0 103 [.ref l0, .int l1, .int 2] [.int v15, .ref l0] rfl ?_
            obtain ⟨u17, hu17, h⟩ := Option.bind_eq_some_iff.mp h
            obtain ⟨y16, hy16, h⟩ := Option.bind_eq_some_iff.mp h
            refine rn_callV [.int v15] rfl rfl ⟨rfl, rfl⟩ hu17 rfl rfl (e154 (d + 3) hy16) ?_
            refine rn_steps 0 106 [.ref l0, .int l1, .int 2] [.int y16.1] rfl ?_
            cases h
            exact rn_ret rfl rfl rfl
          · rw [if_neg hb2] at h
            by_cases hb3 : l2 = 3
            · rw [if_pos hb3] at h
              rw [hb3]
              refine rn_steps 1 107 [.ref l0, .int l1, .int 3] [] rfl ?_
              refine rn_steps 2 109 [.ref l0, .int l1, .int 3] [.ref l0, .ref l0] rfl ?_
              obtain ⟨r18, hr18, h⟩ := Option.bind_eq_some_iff.mp h
              refine rn_gR (c := 9) (f := 16) rfl rfl ⟨⟨rfl, rfl⟩, rfl⟩ hr18 ?_
              refine rn_steps 1 114 [.ref l0, .int l1, .int 3] [.int 42, .ref r18, .ref l0] rfl ?_
              obtain ⟨v19, hv19, h⟩ := Option.bind_eq_some_iff.mp h
              refine rn_aI rfl hv19 ?_
              refine rn_steps 4 119 [.ref l0, .int l1, .int 3] [.int ((v19 >>> (l1 &&& 31)) &&& 1), .ref l0] rfl ?_
              obtain ⟨u21, hu21, h⟩ := Option.bind_eq_some_iff.mp h
              obtain ⟨y20, hy20, h⟩ := Option.bind_eq_some_iff.mp h
              refine rn_callV [.int ((v19 >>> (l1 &&& 31)) &&& 1)] rfl rfl ⟨rfl, rfl⟩ hu21 rfl rfl (e154 (d + 3) hy20) ?_
              refine rn_steps 0 122 [.ref l0, .int l1, .int 3] [.int y20.1] rfl ?_
              cases h
              exact rn_ret rfl rfl rfl
            · rw [if_neg hb3] at h
              by_cases hb4 : l2 = 4
              · rw [if_pos hb4] at h
                rw [hb4]
                refine rn_steps 1 123 [.ref l0, .int l1, .int 4] [] rfl ?_
                refine rn_steps 3 126 [.ref l0, .int l1, .int 4] [.int l1, .ref l0, .ref l0] rfl ?_
                obtain ⟨u25, hu25, h⟩ := Option.bind_eq_some_iff.mp h
                obtain ⟨y22, hy22, h⟩ := Option.bind_eq_some_iff.mp h
                refine rn_callV [.int l1] rfl rfl ⟨rfl, rfl⟩ hu25 rfl rfl (e198 (d + 3) hy22) ?_
                refine rn_steps 0 129 [.ref l0, .int l1, .int 4] [.int y22.1, .ref l0] rfl ?_
                obtain ⟨u24, hu24, h⟩ := Option.bind_eq_some_iff.mp h
                obtain ⟨y23, hy23, h⟩ := Option.bind_eq_some_iff.mp h
                refine rn_callV [.int y22.1] rfl rfl ⟨rfl, rfl⟩ hu24 rfl rfl (e154 (d + 3) hy23) ?_
                refine rn_steps 0 132 [.ref l0, .int l1, .int 4] [.int y23.1] rfl ?_
                cases h
                exact rn_ret rfl rfl rfl
              · rw [if_neg hb4] at h
                by_cases hb5 : l2 = 5
                · rw [if_pos hb5] at h
                  rw [hb5]
                  refine rn_steps 1 133 [.ref l0, .int l1, .int 5] [] rfl ?_
                  refine rn_steps 3 136 [.ref l0, .int l1, .int 5] [.int l1, .ref l0, .ref l0] rfl ?_
                  obtain ⟨u29, hu29, h⟩ := Option.bind_eq_some_iff.mp h
                  obtain ⟨y26, hy26, h⟩ := Option.bind_eq_some_iff.mp h
                  refine rn_callV [.int l1] rfl rfl ⟨rfl, rfl⟩ hu29 rfl rfl (e199 (d + 1) hy26) ?_
                  refine rn_steps 0 139 [.ref l0, .int l1, .int 5] [.int y26.1, .ref l0] rfl ?_
                  obtain ⟨u28, hu28, h⟩ := Option.bind_eq_some_iff.mp h
                  obtain ⟨y27, hy27, h⟩ := Option.bind_eq_some_iff.mp h
                  refine rn_callV [.int y26.1] rfl rfl ⟨rfl, rfl⟩ hu28 rfl rfl (e154 (d + 3) hy27) ?_
                  refine rn_steps 0 142 [.ref l0, .int l1, .int 5] [.int y27.1] rfl ?_
                  cases h
                  exact rn_ret rfl rfl rfl
                · rw [if_neg hb5] at h
                  have hx : l2.toInt < 0 ∨ (5 : Int) < l2.toInt := xout (x := l2) (N := 5) (fun j hj => by rcases (show j = 0 ∨ j = 1 ∨ j = 2 ∨ j = 3 ∨ j = 4 ∨ j = 5 by omega) with rfl | rfl | rfl | rfl | rfl | rfl <;> first | exact hb0 | exact hb1 | exact hb2 | exact hb3 | exact hb4 | exact hb5)
                  refine rn_tbl rfl rfl hx ?_
                  refine rn_steps 3 146 [.ref l0, .int l1, .int l2] [.int l1, .ref l0, .ref l0] rfl ?_
                  obtain ⟨u33, hu33, h⟩ := Option.bind_eq_some_iff.mp h
                  obtain ⟨y30, hy30, h⟩ := Option.bind_eq_some_iff.mp h
                  refine rn_callV [.int l1] rfl rfl ⟨rfl, rfl⟩ hu33 rfl rfl (e200 d hy30) ?_
                  refine rn_steps 0 149 [.ref l0, .int l1, .int l2] [.int y30.1, .ref l0] rfl ?_
                  obtain ⟨u32, hu32, h⟩ := Option.bind_eq_some_iff.mp h
                  obtain ⟨y31, hy31, h⟩ := Option.bind_eq_some_iff.mp h
                  refine rn_callV [.int y30.1] rfl rfl ⟨rfl, rfl⟩ hu32 rfl rfl (e154 (d + 3) hy31) ?_
                  refine rn_steps 0 152 [.ref l0, .int l1, .int l2] [.int y31.1] rfl ?_
                  cases h
                  exact rn_ret rfl rfl rfl
    · rw [if_pos (Decidable.not_not.mp hb)] at h
      refine rn_steps 0 23 [.ref l0, .int l1, .int l2] [] rfl ?_
      exact e201_23 d _ _ _ _ _ h
noncomputable def f202_47 (s0 : Int32) (s1 : Nat) (σ : xM) : Option (Int32 × xM) :=
  (cO σ s1 9).bind fun u2 =>
  (f154 s1 s0 σ).bind fun y1 =>
  some (y1.1, y1.2)
set_option maxRecDepth 20000 in
set_option maxHeartbeats 1000000 in
theorem e202_47 (d : Nat) (s0 : Int32) (s1 : Nat) (x0 x1 x2 x3 : Value) (σ : xM) (y : Int32 × xM) (h : f202_47 s0 s1 σ = some y) : Rn (d + 2) 202 47 [x0, x1, x2, x3] [.int s0, .ref s1] σ (some (.int y.1), y.2) := by
  unfold f202_47 at h
  obtain ⟨u2, hu2, h⟩ := Option.bind_eq_some_iff.mp h
  obtain ⟨y1, hy1, h⟩ := Option.bind_eq_some_iff.mp h
  refine rn_callV [.int s0] rfl rfl ⟨rfl, rfl⟩ hu2 rfl rfl (e154 (d + 1) hy1) ?_
  refine rn_steps 0 50 [x0, x1, x2, x3] [.int y1.1] rfl ?_
  cases h
  exact rn_ret rfl rfl rfl
/-- LastAskedModel.register(II)I -/
noncomputable def f202 (l0 : Nat) (l1 : Int32) (l2 : Int32) (σ : xM) : Option (Int32 × xM) :=
  (pI σ l0 9 0 0).bind fun σ1 =>
  (cO σ1 l0 9).bind fun u7 =>
  (f187 l0 l1 l2 σ1).bind fun y2 =>
  if y2.1 = 0 then
  (cO y2.2 l0 9).bind fun u6 =>
  (f151 l0 1 y2.2).bind fun y5 =>
  some (y5.1, y5.2)
  else
  (gR y2.2 l0 9 16).bind fun r3 =>
  (aI y2.2 r3 ((6 + (6 * l1)) + l2)).bind fun v4 =>
  if v4 = (-1) then
  f202_47 (-2) l0 y2.2
  else
  f202_47 v4 l0 y2.2
set_option maxRecDepth 20000 in
set_option maxHeartbeats 1000000 in
theorem e202 (d : Nat) {l0 : Nat} {l1 : Int32} {l2 : Int32} {σ : xM} {y : Int32 × xM} (h : f202 l0 l1 l2 σ = some y) : Rn (d + 2) 202 0 [.ref l0, .int l1, .int l2, .retAddr 0] [] σ (some (.int y.1), y.2) := by
  unfold f202 at h
  refine rn_steps 2 2 [.ref l0, .int l1, .int l2, .retAddr 0] [.int 0, .ref l0] rfl ?_
  obtain ⟨σ1, hσ1, h⟩ := Option.bind_eq_some_iff.mp h
  refine rn_pI (c := 9) (f := 0) rfl rfl ⟨⟨rfl, rfl⟩, rfl⟩ hσ1 ?_
  refine rn_steps 3 8 [.ref l0, .int l1, .int l2, .retAddr 0] [.int l2, .int l1, .ref l0] rfl ?_
  obtain ⟨u7, hu7, h⟩ := Option.bind_eq_some_iff.mp h
  obtain ⟨y2, hy2, h⟩ := Option.bind_eq_some_iff.mp h
  refine rn_callV [.int l1, .int l2] rfl rfl ⟨rfl, rfl⟩ hu7 rfl rfl (e187 d hy2) ?_
  refine rn_steps 0 11 [.ref l0, .int l1, .int l2, .retAddr 0] [.int y2.1] rfl ?_
  refine rn_br (c := ¬ y2.1 = 0) rfl rfl decide_eq_true_iff (fun hb => ?_) (fun hb => ?_)
  · rw [if_neg hb] at h
    refine rn_steps 1 21 [.ref l0, .int l1, .int l2, .retAddr 0] [.ref l0] rfl ?_
    obtain ⟨r3, hr3, h⟩ := Option.bind_eq_some_iff.mp h
    refine rn_gR (c := 9) (f := 16) rfl rfl ⟨⟨rfl, rfl⟩, rfl⟩ hr3 ?_
    refine rn_steps 7 33 [.ref l0, .int l1, .int l2, .retAddr 0] [.int ((6 + (6 * l1)) + l2), .ref r3] rfl ?_
    obtain ⟨v4, hv4, h⟩ := Option.bind_eq_some_iff.mp h
    refine rn_aI rfl hv4 ?_
    refine rn_steps 4 38 [.ref l0, .int l1, .int l2, .int v4] [.int (-1), .int v4, .ref l0] rfl ?_
    refine rn_br (c := ¬ v4 = (-1)) rfl rfl decide_eq_true_iff (fun hb => ?_) (fun hb => ?_)
    · rw [if_neg hb] at h
      refine rn_steps 1 47 [.ref l0, .int l1, .int l2, .int v4] [.int v4, .ref l0] rfl ?_
      exact e202_47 d _ _ _ _ _ _ _ _ h
    · rw [if_pos (Decidable.not_not.mp hb)] at h
      refine rn_steps 2 47 [.ref l0, .int l1, .int l2, .int v4] [.int (-2), .ref l0] rfl ?_
      exact e202_47 d _ _ _ _ _ _ _ _ h
  · rw [if_pos (Decidable.not_not.mp hb)] at h
    refine rn_steps 2 16 [.ref l0, .int l1, .int l2, .retAddr 0] [.int 1, .ref l0] rfl ?_
    obtain ⟨u6, hu6, h⟩ := Option.bind_eq_some_iff.mp h
    obtain ⟨y5, hy5, h⟩ := Option.bind_eq_some_iff.mp h
    refine rn_callV [.int 1] rfl rfl ⟨rfl, rfl⟩ hu6 rfl rfl (e151 (d + 1) hy5) ?_
    refine rn_steps 0 19 [.ref l0, .int l1, .int l2, .retAddr 0] [.int y5.1] rfl ?_
    cases h
    exact rn_ret rfl rfl rfl
noncomputable def f203_31 (s0 : Int32) (σ : xM) : Option (Int32 × xM) :=
  some (s0, σ)
set_option maxRecDepth 20000 in
set_option maxHeartbeats 1000000 in
theorem e203_31 (d : Nat) (s0 : Int32) (x0 x1 : Value) (σ : xM) (y : Int32 × xM) (h : f203_31 s0 σ = some y) : Rn (d + 1) 203 31 [x0, x1] [.int s0] σ (some (.int y.1), y.2) := by
  unfold f203_31 at h
  cases h
  exact rn_ret rfl rfl rfl
/-- LastAskedModel.refusesLiving(I)I -/
noncomputable def f203 (l0 : Nat) (l1 : Int32) (σ : xM) : Option (Int32 × xM) :=
  (cO σ l0 9).bind fun u5 =>
  (f186 l0 l1 σ).bind fun y1 =>
  if y1.1 = 0 then
  f203_31 1 y1.2
  else
  (gR y1.2 l0 9 16).bind fun r2 =>
  (aI y1.2 r2 42).bind fun v3 =>
  (f157 v3 l1 y1.2).bind fun y4 =>
  if y4.1 = 0 then
  f203_31 5 y4.2
  else
  f203_31 0 y4.2
set_option maxRecDepth 20000 in
set_option maxHeartbeats 1000000 in
theorem e203 (d : Nat) {l0 : Nat} {l1 : Int32} {σ : xM} {y : Int32 × xM} (h : f203 l0 l1 σ = some y) : Rn (d + 1) 203 0 [.ref l0, .int l1] [] σ (some (.int y.1), y.2) := by
  unfold f203 at h
  refine rn_steps 2 2 [.ref l0, .int l1] [.int l1, .ref l0] rfl ?_
  obtain ⟨u5, hu5, h⟩ := Option.bind_eq_some_iff.mp h
  obtain ⟨y1, hy1, h⟩ := Option.bind_eq_some_iff.mp h
  refine rn_callV [.int l1] rfl rfl ⟨rfl, rfl⟩ hu5 rfl rfl (e186 d hy1) ?_
  refine rn_steps 0 5 [.ref l0, .int l1] [.int y1.1] rfl ?_
  refine rn_br (c := ¬ y1.1 = 0) rfl rfl decide_eq_true_iff (fun hb => ?_) (fun hb => ?_)
  · rw [if_neg hb] at h
    refine rn_steps 1 13 [.ref l0, .int l1] [.ref l0] rfl ?_
    obtain ⟨r2, hr2, h⟩ := Option.bind_eq_some_iff.mp h
    refine rn_gR (c := 9) (f := 16) rfl rfl ⟨⟨rfl, rfl⟩, rfl⟩ hr2 ?_
    refine rn_steps 1 18 [.ref l0, .int l1] [.int 42, .ref r2] rfl ?_
    obtain ⟨v3, hv3, h⟩ := Option.bind_eq_some_iff.mp h
    refine rn_aI rfl hv3 ?_
    refine rn_steps 1 20 [.ref l0, .int l1] [.int l1, .int v3] rfl ?_
    obtain ⟨y4, hy4, h⟩ := Option.bind_eq_some_iff.mp h
    refine rn_callS [.int v3, .int l1] rfl rfl rfl ⟨rfl, rfl, rfl⟩ rfl rfl (e157 d hy4) ?_
    refine rn_steps 0 23 [.ref l0, .int l1] [.int y4.1] rfl ?_
    refine rn_br (c := y4.1 = 0) rfl rfl decide_eq_true_iff (fun hb => ?_) (fun hb => ?_)
    · rw [if_pos hb] at h
      refine rn_steps 1 31 [.ref l0, .int l1] [.int 5] rfl ?_
      exact e203_31 d _ _ _ _ _ h
    · rw [if_neg hb] at h
      refine rn_steps 2 31 [.ref l0, .int l1] [.int 0] rfl ?_
      exact e203_31 d _ _ _ _ _ h
  · rw [if_pos (Decidable.not_not.mp hb)] at h
    refine rn_steps 2 31 [.ref l0, .int l1] [.int 1] rfl ?_
    exact e203_31 d _ _ _ _ _ h
/-- LastAskedModel.heir(I)I -/
noncomputable def f204 (l0 : Nat) (l1 : Int32) (σ : xM) : Option (Int32 × xM) :=
  (pI σ l0 9 0 0).bind fun σ1 =>
  (cO σ1 l0 9).bind fun u11 =>
  (f203 l0 l1 σ1).bind fun y2 =>
  if y2.1 ≤ 0 then
  (cO y2.2 l0 9).bind fun u8 =>
  (f188 l0 y2.2).bind fun y3 =>
  (cO y3 l0 9).bind fun u7 =>
  (f192 l0 l1 y3).bind fun y4 =>
  (cO y4.2 l0 9).bind fun u6 =>
  (f154 l0 y4.1 y4.2).bind fun y5 =>
  some (y5.1, y5.2)
  else
  (cO y2.2 l0 9).bind fun u10 =>
  (f151 l0 y2.1 y2.2).bind fun y9 =>
  some (y9.1, y9.2)
set_option maxRecDepth 20000 in
set_option maxHeartbeats 1000000 in
theorem e204 (d : Nat) {l0 : Nat} {l1 : Int32} {σ : xM} {y : Int32 × xM} (h : f204 l0 l1 σ = some y) : Rn (d + 3) 204 0 [.ref l0, .int l1, .retAddr 0] [] σ (some (.int y.1), y.2) := by
  unfold f204 at h
  refine rn_steps 2 2 [.ref l0, .int l1, .retAddr 0] [.int 0, .ref l0] rfl ?_
  obtain ⟨σ1, hσ1, h⟩ := Option.bind_eq_some_iff.mp h
  refine rn_pI (c := 9) (f := 0) rfl rfl ⟨⟨rfl, rfl⟩, rfl⟩ hσ1 ?_
  refine rn_steps 2 7 [.ref l0, .int l1, .retAddr 0] [.int l1, .ref l0] rfl ?_
  obtain ⟨u11, hu11, h⟩ := Option.bind_eq_some_iff.mp h
  obtain ⟨y2, hy2, h⟩ := Option.bind_eq_some_iff.mp h
  refine rn_callV [.int l1] rfl rfl ⟨rfl, rfl⟩ hu11 rfl rfl (e203 (d + 1) hy2) ?_
  refine rn_steps 2 12 [.ref l0, .int l1, .int y2.1] [.int y2.1] rfl ?_
  refine rn_br (c := y2.1 ≤ 0) rfl rfl decide_eq_true_iff (fun hb => ?_) (fun hb => ?_)
  · rw [if_pos hb] at h
    refine rn_steps 1 22 [.ref l0, .int l1, .int y2.1] [.ref l0] rfl ?_
    obtain ⟨u8, hu8, h⟩ := Option.bind_eq_some_iff.mp h
    obtain ⟨y3, hy3, h⟩ := Option.bind_eq_some_iff.mp h
    refine rn_callV [] rfl rfl ⟨rfl, rfl⟩ hu8 rfl rfl (e188 (d + 2) hy3) ?_
    refine rn_steps 3 28 [.ref l0, .int l1, .int y2.1] [.int l1, .ref l0, .ref l0] rfl ?_
    obtain ⟨u7, hu7, h⟩ := Option.bind_eq_some_iff.mp h
    obtain ⟨y4, hy4, h⟩ := Option.bind_eq_some_iff.mp h
    refine rn_callV [.int l1] rfl rfl ⟨rfl, rfl⟩ hu7 rfl rfl (e192 d hy4) ?_
    refine rn_steps 0 31 [.ref l0, .int l1, .int y2.1] [.int y4.1, .ref l0] rfl ?_
    obtain ⟨u6, hu6, h⟩ := Option.bind_eq_some_iff.mp h
    obtain ⟨y5, hy5, h⟩ := Option.bind_eq_some_iff.mp h
    refine rn_callV [.int y4.1] rfl rfl ⟨rfl, rfl⟩ hu6 rfl rfl (e154 (d + 2) hy5) ?_
    refine rn_steps 0 34 [.ref l0, .int l1, .int y2.1] [.int y5.1] rfl ?_
    cases h
    exact rn_ret rfl rfl rfl
  · rw [if_neg hb] at h
    refine rn_steps 2 17 [.ref l0, .int l1, .int y2.1] [.int y2.1, .ref l0] rfl ?_
    obtain ⟨u10, hu10, h⟩ := Option.bind_eq_some_iff.mp h
    obtain ⟨y9, hy9, h⟩ := Option.bind_eq_some_iff.mp h
    refine rn_callV [.int y2.1] rfl rfl ⟨rfl, rfl⟩ hu10 rfl rfl (e151 (d + 2) hy9) ?_
    refine rn_steps 0 20 [.ref l0, .int l1, .int y2.1] [.int y9.1] rfl ?_
    cases h
    exact rn_ret rfl rfl rfl
noncomputable def f205_49 (l2 : Int32) (σ : xM) : Option (Int32 × xM) :=
  some (l2, σ)
set_option maxRecDepth 20000 in
set_option maxHeartbeats 1000000 in
theorem e205_49 (d : Nat) (l2 : Int32) (x0 x1 x3 : Value) (σ : xM) (y : Int32 × xM) (h : f205_49 l2 σ = some y) : Rn (d + 2) 205 49 [x0, x1, .int l2, x3] [] σ (some (.int y.1), y.2) := by
  unfold f205_49 at h
  refine rn_steps 1 50 [x0, x1, .int l2, x3] [.int l2] rfl ?_
  cases h
  exact rn_ret rfl rfl rfl
noncomputable def f205_41 (K4 : Nat → Int32 → Int32 → Int32 → xM → Option (Int32 × xM)) (l0 : Nat) (l1 : Int32) (l3 : Int32) (s0 : Int32) (s1 : Int32) (σ : xM) : Option (Int32 × xM) :=
  K4 l0 l1 (s1 ||| s0) (l3 + 1) σ
set_option maxRecDepth 20000 in
set_option maxHeartbeats 1000000 in
theorem e205_41 (d : Nat) (K4 : Nat → Int32 → Int32 → Int32 → xM → Option (Int32 × xM)) (hK4 : ∀ (l0 : Nat) (l1 : Int32) (l2 : Int32) (l3 : Int32) (σ : xM) (y : Int32 × xM), K4 l0 l1 l2 l3 σ = some y → Rn (d + 2) 205 4 [.ref l0, .int l1, .int l2, .int l3] [] σ (some (.int y.1), y.2)) (l0 : Nat) (l1 : Int32) (l3 : Int32) (s0 : Int32) (s1 : Int32) (x2 : Value) (σ : xM) (y : Int32 × xM) (h : f205_41 K4 l0 l1 l3 s0 s1 σ = some y) : Rn (d + 2) 205 41 [.ref l0, .int l1, x2, .int l3] [.int s0, .int s1] σ (some (.int y.1), y.2) := by
  unfold f205_41 at h
  refine rn_steps 4 4 [.ref l0, .int l1, .int (s1 ||| s0), .int (l3 + 1)] [] rfl ?_
  exact hK4 _ _ _ _ _ _ h
noncomputable def f205_40 (K4 : Nat → Int32 → Int32 → Int32 → xM → Option (Int32 × xM)) (l0 : Nat) (l1 : Int32) (l3 : Int32) (s0 : Int32) (σ : xM) : Option (Int32 × xM) :=
  f205_41 K4 l0 l1 l3 0 s0 σ
set_option maxRecDepth 20000 in
set_option maxHeartbeats 1000000 in
theorem e205_40 (d : Nat) (K4 : Nat → Int32 → Int32 → Int32 → xM → Option (Int32 × xM)) (hK4 : ∀ (l0 : Nat) (l1 : Int32) (l2 : Int32) (l3 : Int32) (σ : xM) (y : Int32 × xM), K4 l0 l1 l2 l3 σ = some y → Rn (d + 2) 205 4 [.ref l0, .int l1, .int l2, .int l3] [] σ (some (.int y.1), y.2)) (l0 : Nat) (l1 : Int32) (l3 : Int32) (s0 : Int32) (x2 : Value) (σ : xM) (y : Int32 × xM) (h : f205_40 K4 l0 l1 l3 s0 σ = some y) : Rn (d + 2) 205 40 [.ref l0, .int l1, x2, .int l3] [.int s0] σ (some (.int y.1), y.2) := by
  unfold f205_40 at h
  refine rn_steps 1 41 [.ref l0, .int l1, x2, .int l3] [.int 0, .int s0] rfl ?_
  exact e205_41 d _ hK4 _ _ _ _ _ _ _ _ h
noncomputable def f205_4 : Nat → Nat → Int32 → Int32 → Int32 → xM → Option (Int32 × xM)
  | 0, _, _, _, _, _ => none
  | n + 1, l0, l1, l2, l3, σ =>
    (gR σ l0 9 3).bind fun r1 =>
    (gI σ r1 8 2).bind fun v2 =>
    if v2 ≤ l3 then
    f205_49 l2 σ
    else
    (cO σ l0 9).bind fun u6 =>
    (f190 l0 l3 σ).bind fun y3 =>
    if y3.1 = 0 then
    f205_40 (f205_4 n) l0 l1 l3 l2 y3.2
    else
    (gR y3.2 l0 9 22).bind fun r4 =>
    (aI y3.2 r4 l3).bind fun v5 =>
    if v5 = l1 then
    f205_41 (f205_4 n) l0 l1 l3 (1 <<< (l3 &&& 31)) l2 y3.2
    else
    f205_40 (f205_4 n) l0 l1 l3 l2 y3.2
set_option maxRecDepth 20000 in
set_option maxHeartbeats 1000000 in
theorem e205_4 (d : Nat) : ∀ (n : Nat) (l0 : Nat) (l1 : Int32) (l2 : Int32) (l3 : Int32) (σ : xM) (y : Int32 × xM), f205_4 n l0 l1 l2 l3 σ = some y → Rn (d + 2) 205 4 [.ref l0, .int l1, .int l2, .int l3] [] σ (some (.int y.1), y.2) := by
  intro n
  induction n with
  | zero => intro l0 l1 l2 l3 σ y h; cases h
  | succ n ih =>
    intro l0 l1 l2 l3 σ y h
    unfold f205_4 at h
    refine rn_steps 2 6 [.ref l0, .int l1, .int l2, .int l3] [.ref l0, .int l3] rfl ?_
    obtain ⟨r1, hr1, h⟩ := Option.bind_eq_some_iff.mp h
    refine rn_gR (c := 9) (f := 3) rfl rfl ⟨⟨rfl, rfl⟩, rfl⟩ hr1 ?_
    refine rn_steps 0 9 [.ref l0, .int l1, .int l2, .int l3] [.ref r1, .int l3] rfl ?_
    obtain ⟨v2, hv2, h⟩ := Option.bind_eq_some_iff.mp h
    refine rn_gI (c := 8) (f := 2) rfl rfl ⟨⟨rfl, rfl⟩, Or.inl rfl⟩ hv2 ?_
    refine rn_steps 0 12 [.ref l0, .int l1, .int l2, .int l3] [.int v2, .int l3] rfl ?_
    refine rn_br (c := v2 ≤ l3) rfl rfl decide_eq_true_iff (fun hb => ?_) (fun hb => ?_)
    · rw [if_pos hb] at h
      refine rn_steps 0 49 [.ref l0, .int l1, .int l2, .int l3] [] rfl ?_
      exact e205_49 d _ _ _ _ _ _ h
    · rw [if_neg hb] at h
      refine rn_steps 3 18 [.ref l0, .int l1, .int l2, .int l3] [.int l3, .ref l0, .int l2] rfl ?_
      obtain ⟨u6, hu6, h⟩ := Option.bind_eq_some_iff.mp h
      obtain ⟨y3, hy3, h⟩ := Option.bind_eq_some_iff.mp h
      refine rn_callV [.int l3] rfl rfl ⟨rfl, rfl⟩ hu6 rfl rfl (e190 d hy3) ?_
      refine rn_steps 0 21 [.ref l0, .int l1, .int l2, .int l3] [.int y3.1, .int l2] rfl ?_
      refine rn_br (c := y3.1 = 0) rfl rfl decide_eq_true_iff (fun hb => ?_) (fun hb => ?_)
      · rw [if_pos hb] at h
        refine rn_steps 0 40 [.ref l0, .int l1, .int l2, .int l3] [.int l2] rfl ?_
        exact e205_40 d _ ih _ _ _ _ _ _ _ h
      · rw [if_neg hb] at h
        refine rn_steps 1 25 [.ref l0, .int l1, .int l2, .int l3] [.ref l0, .int l2] rfl ?_
        obtain ⟨r4, hr4, h⟩ := Option.bind_eq_some_iff.mp h
        refine rn_gR (c := 9) (f := 22) rfl rfl ⟨⟨rfl, rfl⟩, rfl⟩ hr4 ?_
        refine rn_steps 1 29 [.ref l0, .int l1, .int l2, .int l3] [.int l3, .ref r4, .int l2] rfl ?_
        obtain ⟨v5, hv5, h⟩ := Option.bind_eq_some_iff.mp h
        refine rn_aI rfl hv5 ?_
        refine rn_steps 1 31 [.ref l0, .int l1, .int l2, .int l3] [.int l1, .int v5, .int l2] rfl ?_
        refine rn_br (c := ¬ v5 = l1) rfl rfl decide_eq_true_iff (fun hb => ?_) (fun hb => ?_)
        · rw [if_neg hb] at h
          refine rn_steps 0 40 [.ref l0, .int l1, .int l2, .int l3] [.int l2] rfl ?_
          exact e205_40 d _ ih _ _ _ _ _ _ _ h
        · rw [if_pos (Decidable.not_not.mp hb)] at h
          refine rn_steps 4 41 [.ref l0, .int l1, .int l2, .int l3] [.int (1 <<< (l3 &&& 31)), .int l2] rfl ?_
          exact e205_41 d _ ih _ _ _ _ _ _ _ _ h
/-- LastAskedModel.inheritsOf(I)I -/
noncomputable def f205 (l0 : Nat) (l1 : Int32) (σ : xM) : Option (Int32 × xM) :=
  f205_4 1100 l0 l1 0 0 σ
set_option maxRecDepth 20000 in
set_option maxHeartbeats 1000000 in
theorem e205 (d : Nat) {l0 : Nat} {l1 : Int32} {σ : xM} {y : Int32 × xM} (h : f205 l0 l1 σ = some y) : Rn (d + 2) 205 0 [.ref l0, .int l1, .retAddr 0, .retAddr 0] [] σ (some (.int y.1), y.2) := by
  unfold f205 at h
  refine rn_steps 4 4 [.ref l0, .int l1, .int 0, .int 0] [] rfl ?_
  exact e205_4 d 1100 _ _ _ _ _ _ h
/-- LastAskedModel.heirTo(I)I -/
noncomputable def f206 (l0 : Nat) (l1 : Int32) (σ : xM) : Option (Int32 × xM) :=
  (pI σ l0 9 0 0).bind fun σ1 =>
  (cO σ1 l0 9).bind fun u11 =>
  (f186 l0 l1 σ1).bind fun y2 =>
  if y2.1 = 0 then
  (cO y2.2 l0 9).bind fun u10 =>
  (f151 l0 1 y2.2).bind fun y9 =>
  some (y9.1, y9.2)
  else
  (cO y2.2 l0 9).bind fun u8 =>
  (f197 l0 y2.2).bind fun y3 =>
  (cO y3 l0 9).bind fun u7 =>
  (f205 l0 l1 y3).bind fun y4 =>
  (cO y4.2 l0 9).bind fun u6 =>
  (f154 l0 y4.1 y4.2).bind fun y5 =>
  some (y5.1, y5.2)
set_option maxRecDepth 20000 in
set_option maxHeartbeats 1000000 in
theorem e206 (d : Nat) {l0 : Nat} {l1 : Int32} {σ : xM} {y : Int32 × xM} (h : f206 l0 l1 σ = some y) : Rn (d + 5) 206 0 [.ref l0, .int l1] [] σ (some (.int y.1), y.2) := by
  unfold f206 at h
  refine rn_steps 2 2 [.ref l0, .int l1] [.int 0, .ref l0] rfl ?_
  obtain ⟨σ1, hσ1, h⟩ := Option.bind_eq_some_iff.mp h
  refine rn_pI (c := 9) (f := 0) rfl rfl ⟨⟨rfl, rfl⟩, rfl⟩ hσ1 ?_
  refine rn_steps 2 7 [.ref l0, .int l1] [.int l1, .ref l0] rfl ?_
  obtain ⟨u11, hu11, h⟩ := Option.bind_eq_some_iff.mp h
  obtain ⟨y2, hy2, h⟩ := Option.bind_eq_some_iff.mp h
  refine rn_callV [.int l1] rfl rfl ⟨rfl, rfl⟩ hu11 rfl rfl (e186 (d + 4) hy2) ?_
  refine rn_steps 0 10 [.ref l0, .int l1] [.int y2.1] rfl ?_
  refine rn_br (c := ¬ y2.1 = 0) rfl rfl decide_eq_true_iff (fun hb => ?_) (fun hb => ?_)
  · rw [if_neg hb] at h
    refine rn_steps 1 20 [.ref l0, .int l1] [.ref l0] rfl ?_
    obtain ⟨u8, hu8, h⟩ := Option.bind_eq_some_iff.mp h
    obtain ⟨y3, hy3, h⟩ := Option.bind_eq_some_iff.mp h
    refine rn_callV [] rfl rfl ⟨rfl, rfl⟩ hu8 rfl rfl (e197 d hy3) ?_
    refine rn_steps 3 26 [.ref l0, .int l1] [.int l1, .ref l0, .ref l0] rfl ?_
    obtain ⟨u7, hu7, h⟩ := Option.bind_eq_some_iff.mp h
    obtain ⟨y4, hy4, h⟩ := Option.bind_eq_some_iff.mp h
    refine rn_callV [.int l1] rfl rfl ⟨rfl, rfl⟩ hu7 rfl rfl (e205 (d + 2) hy4) ?_
    refine rn_steps 0 29 [.ref l0, .int l1] [.int y4.1, .ref l0] rfl ?_
    obtain ⟨u6, hu6, h⟩ := Option.bind_eq_some_iff.mp h
    obtain ⟨y5, hy5, h⟩ := Option.bind_eq_some_iff.mp h
    refine rn_callV [.int y4.1] rfl rfl ⟨rfl, rfl⟩ hu6 rfl rfl (e154 (d + 4) hy5) ?_
    refine rn_steps 0 32 [.ref l0, .int l1] [.int y5.1] rfl ?_
    cases h
    exact rn_ret rfl rfl rfl
  · rw [if_pos (Decidable.not_not.mp hb)] at h
    refine rn_steps 2 15 [.ref l0, .int l1] [.int 1, .ref l0] rfl ?_
    obtain ⟨u10, hu10, h⟩ := Option.bind_eq_some_iff.mp h
    obtain ⟨y9, hy9, h⟩ := Option.bind_eq_some_iff.mp h
    refine rn_callV [.int 1] rfl rfl ⟨rfl, rfl⟩ hu10 rfl rfl (e151 (d + 4) hy9) ?_
    refine rn_steps 0 18 [.ref l0, .int l1] [.int y9.1] rfl ?_
    cases h
    exact rn_ret rfl rfl rfl
/-- LastAskedModel.hopes(I)I -/
noncomputable def f207 (l0 : Nat) (l1 : Int32) (σ : xM) : Option (Int32 × xM) :=
  (pI σ l0 9 0 0).bind fun σ1 =>
  (cO σ1 l0 9).bind fun u15 =>
  (f203 l0 l1 σ1).bind fun y2 =>
  if y2.1 ≤ 0 then
  (cO y2.2 l0 9).bind fun u12 =>
  (f197 l0 y2.2).bind fun y3 =>
  (cO y3 l0 9).bind fun u11 =>
  (f205 l0 l1 y3).bind fun y4 =>
  (cO y4.2 l0 9).bind fun u10 =>
  (f195 l0 y4.1 y4.2).bind fun y5 =>
  (gR y5 l0 9 23).bind fun r6 =>
  (aI y5 r6 l1).bind fun v7 =>
  (cO y5 l0 9).bind fun u9 =>
  (f154 l0 v7 y5).bind fun y8 =>
  some (y8.1, y8.2)
  else
  (cO y2.2 l0 9).bind fun u14 =>
  (f151 l0 y2.1 y2.2).bind fun y13 =>
  some (y13.1, y13.2)
set_option maxRecDepth 20000 in
set_option maxHeartbeats 1000000 in
theorem e207 (d : Nat) {l0 : Nat} {l1 : Int32} {σ : xM} {y : Int32 × xM} (h : f207 l0 l1 σ = some y) : Rn (d + 5) 207 0 [.ref l0, .int l1, .retAddr 0] [] σ (some (.int y.1), y.2) := by
  unfold f207 at h
  refine rn_steps 2 2 [.ref l0, .int l1, .retAddr 0] [.int 0, .ref l0] rfl ?_
  obtain ⟨σ1, hσ1, h⟩ := Option.bind_eq_some_iff.mp h
  refine rn_pI (c := 9) (f := 0) rfl rfl ⟨⟨rfl, rfl⟩, rfl⟩ hσ1 ?_
  refine rn_steps 2 7 [.ref l0, .int l1, .retAddr 0] [.int l1, .ref l0] rfl ?_
  obtain ⟨u15, hu15, h⟩ := Option.bind_eq_some_iff.mp h
  obtain ⟨y2, hy2, h⟩ := Option.bind_eq_some_iff.mp h
  refine rn_callV [.int l1] rfl rfl ⟨rfl, rfl⟩ hu15 rfl rfl (e203 (d + 3) hy2) ?_
  refine rn_steps 2 12 [.ref l0, .int l1, .int y2.1] [.int y2.1] rfl ?_
  refine rn_br (c := y2.1 ≤ 0) rfl rfl decide_eq_true_iff (fun hb => ?_) (fun hb => ?_)
  · rw [if_pos hb] at h
    refine rn_steps 1 22 [.ref l0, .int l1, .int y2.1] [.ref l0] rfl ?_
    obtain ⟨u12, hu12, h⟩ := Option.bind_eq_some_iff.mp h
    obtain ⟨y3, hy3, h⟩ := Option.bind_eq_some_iff.mp h
    refine rn_callV [] rfl rfl ⟨rfl, rfl⟩ hu12 rfl rfl (e197 d hy3) ?_
    refine rn_steps 3 28 [.ref l0, .int l1, .int y2.1] [.int l1, .ref l0, .ref l0] rfl ?_
    obtain ⟨u11, hu11, h⟩ := Option.bind_eq_some_iff.mp h
    obtain ⟨y4, hy4, h⟩ := Option.bind_eq_some_iff.mp h
    refine rn_callV [.int l1] rfl rfl ⟨rfl, rfl⟩ hu11 rfl rfl (e205 (d + 2) hy4) ?_
    refine rn_steps 0 31 [.ref l0, .int l1, .int y2.1] [.int y4.1, .ref l0] rfl ?_
    obtain ⟨u10, hu10, h⟩ := Option.bind_eq_some_iff.mp h
    obtain ⟨y5, hy5, h⟩ := Option.bind_eq_some_iff.mp h
    refine rn_callV [.int y4.1] rfl rfl ⟨rfl, rfl⟩ hu10 rfl rfl (e195 (d + 2) hy5) ?_
    refine rn_steps 2 36 [.ref l0, .int l1, .int y2.1] [.ref l0, .ref l0] rfl ?_
    obtain ⟨r6, hr6, h⟩ := Option.bind_eq_some_iff.mp h
    refine rn_gR (c := 9) (f := 23) rfl rfl ⟨⟨rfl, rfl⟩, rfl⟩ hr6 ?_
    refine rn_steps 1 40 [.ref l0, .int l1, .int y2.1] [.int l1, .ref r6, .ref l0] rfl ?_
    obtain ⟨v7, hv7, h⟩ := Option.bind_eq_some_iff.mp h
    refine rn_aI rfl hv7 ?_
    refine rn_steps 0 41 [.ref l0, .int l1, .int y2.1] [.int v7, .ref l0] rfl ?_
    obtain ⟨u9, hu9, h⟩ := Option.bind_eq_some_iff.mp h
    obtain ⟨y8, hy8, h⟩ := Option.bind_eq_some_iff.mp h
    refine rn_callV [.int v7] rfl rfl ⟨rfl, rfl⟩ hu9 rfl rfl (e154 (d + 4) hy8) ?_
    refine rn_steps 0 44 [.ref l0, .int l1, .int y2.1] [.int y8.1] rfl ?_
    cases h
    exact rn_ret rfl rfl rfl
  · rw [if_neg hb] at h
    refine rn_steps 2 17 [.ref l0, .int l1, .int y2.1] [.int y2.1, .ref l0] rfl ?_
    obtain ⟨u14, hu14, h⟩ := Option.bind_eq_some_iff.mp h
    obtain ⟨y13, hy13, h⟩ := Option.bind_eq_some_iff.mp h
    refine rn_callV [.int y2.1] rfl rfl ⟨rfl, rfl⟩ hu14 rfl rfl (e151 (d + 4) hy13) ?_
    refine rn_steps 0 20 [.ref l0, .int l1, .int y2.1] [.int y13.1] rfl ?_
    cases h
    exact rn_ret rfl rfl rfl
noncomputable def f208_31 (s0 : Int32) (σ : xM) : Option (Int32 × xM) :=
  some (s0, σ)
set_option maxRecDepth 20000 in
set_option maxHeartbeats 1000000 in
theorem e208_31 (d : Nat) (s0 : Int32) (x0 : Value) (σ : xM) (y : Int32 × xM) (h : f208_31 s0 σ = some y) : Rn (d + 1) 208 31 [x0] [.int s0] σ (some (.int y.1), y.2) := by
  unfold f208_31 at h
  cases h
  exact rn_ret rfl rfl rfl
/-- LastAskedModel.cat()I -/
noncomputable def f208 (l0 : Nat) (σ : xM) : Option (Int32 × xM) :=
  (pI σ l0 9 0 0).bind fun σ1 =>
  (gQ σ1 l0 9 3).bind fun q2 =>
  match q2 with
  | none =>
  (cO σ1 l0 9).bind fun u5 =>
  (f151 l0 1 σ1).bind fun y4 =>
  f208_31 y4.1 y4.2
  | some b3 =>
  (gR σ1 l0 9 16).bind fun r6 =>
  (aI σ1 r6 43).bind fun v7 =>
  (cO σ1 l0 9).bind fun u9 =>
  (f154 l0 v7 σ1).bind fun y8 =>
  f208_31 y8.1 y8.2
set_option maxRecDepth 20000 in
set_option maxHeartbeats 1000000 in
theorem e208 (d : Nat) {l0 : Nat} {σ : xM} {y : Int32 × xM} (h : f208 l0 σ = some y) : Rn (d + 1) 208 0 [.ref l0] [] σ (some (.int y.1), y.2) := by
  unfold f208 at h
  refine rn_steps 2 2 [.ref l0] [.int 0, .ref l0] rfl ?_
  obtain ⟨σ1, hσ1, h⟩ := Option.bind_eq_some_iff.mp h
  refine rn_pI (c := 9) (f := 0) rfl rfl ⟨⟨rfl, rfl⟩, rfl⟩ hσ1 ?_
  refine rn_steps 1 6 [.ref l0] [.ref l0] rfl ?_
  obtain ⟨q2, hq2, h⟩ := Option.bind_eq_some_iff.mp h
  refine rn_gQ (c := 9) (f := 3) rfl rfl ⟨⟨rfl, rfl⟩, rfl⟩ hq2 ?_
  cases q2 with
  | none =>
    dsimp only at h
    refine rn_steps 3 14 [.ref l0] [.int 1, .ref l0] rfl ?_
    obtain ⟨u5, hu5, h⟩ := Option.bind_eq_some_iff.mp h
    obtain ⟨y4, hy4, h⟩ := Option.bind_eq_some_iff.mp h
    refine rn_callV [.int 1] rfl rfl ⟨rfl, rfl⟩ hu5 rfl rfl (e151 d hy4) ?_
    refine rn_steps 1 31 [.ref l0] [.int y4.1] rfl ?_
    exact e208_31 d _ _ _ _ h
  | some b3 =>
    dsimp only at h
    refine rn_steps 3 22 [.ref l0] [.ref l0, .ref l0] rfl ?_
    obtain ⟨r6, hr6, h⟩ := Option.bind_eq_some_iff.mp h
    refine rn_gR (c := 9) (f := 16) rfl rfl ⟨⟨rfl, rfl⟩, rfl⟩ hr6 ?_
    refine rn_steps 1 27 [.ref l0] [.int 43, .ref r6, .ref l0] rfl ?_
    obtain ⟨v7, hv7, h⟩ := Option.bind_eq_some_iff.mp h
    refine rn_aI rfl hv7 ?_
    refine rn_steps 0 28 [.ref l0] [.int v7, .ref l0] rfl ?_
    obtain ⟨u9, hu9, h⟩ := Option.bind_eq_some_iff.mp h
    obtain ⟨y8, hy8, h⟩ := Option.bind_eq_some_iff.mp h
    refine rn_callV [.int v7] rfl rfl ⟨rfl, rfl⟩ hu9 rfl rfl (e154 d hy8) ?_
    refine rn_steps 0 31 [.ref l0] [.int y8.1] rfl ?_
    exact e208_31 d _ _ _ _ h
noncomputable def f209_77 (l0 : Nat) (l1 : Int32) (σ : xM) : Option (Int32 × xM) :=
  (cO σ l0 9).bind fun u2 =>
  (f154 l0 l1 σ).bind fun y1 =>
  some (y1.1, y1.2)
set_option maxRecDepth 20000 in
set_option maxHeartbeats 1000000 in
theorem e209_77 (d : Nat) (l0 : Nat) (l1 : Int32) (x2 : Value) (σ : xM) (y : Int32 × xM) (h : f209_77 l0 l1 σ = some y) : Rn (d + 1) 209 77 [.ref l0, .int l1, x2] [] σ (some (.int y.1), y.2) := by
  unfold f209_77 at h
  refine rn_steps 2 79 [.ref l0, .int l1, x2] [.int l1, .ref l0] rfl ?_
  obtain ⟨u2, hu2, h⟩ := Option.bind_eq_some_iff.mp h
  obtain ⟨y1, hy1, h⟩ := Option.bind_eq_some_iff.mp h
  refine rn_callV [.int l1] rfl rfl ⟨rfl, rfl⟩ hu2 rfl rfl (e154 d hy1) ?_
  refine rn_steps 0 82 [.ref l0, .int l1, x2] [.int y1.1] rfl ?_
  cases h
  exact rn_ret rfl rfl rfl
noncomputable def f209_71 (K23 : Nat → Int32 → Int32 → xM → Option (Int32 × xM)) (l0 : Nat) (l1 : Int32) (l2 : Int32) (σ : xM) : Option (Int32 × xM) :=
  K23 l0 l1 (l2 + 1) σ
set_option maxRecDepth 20000 in
set_option maxHeartbeats 1000000 in
theorem e209_71 (d : Nat) (K23 : Nat → Int32 → Int32 → xM → Option (Int32 × xM)) (hK23 : ∀ (l0 : Nat) (l1 : Int32) (l2 : Int32) (σ : xM) (y : Int32 × xM), K23 l0 l1 l2 σ = some y → Rn (d + 1) 209 23 [.ref l0, .int l1, .int l2] [] σ (some (.int y.1), y.2)) (l0 : Nat) (l1 : Int32) (l2 : Int32) (σ : xM) (y : Int32 × xM) (h : f209_71 K23 l0 l1 l2 σ = some y) : Rn (d + 1) 209 71 [.ref l0, .int l1, .int l2] [] σ (some (.int y.1), y.2) := by
  unfold f209_71 at h
  refine rn_steps 2 23 [.ref l0, .int l1, .int (l2 + 1)] [] rfl ?_
  exact hK23 _ _ _ _ _ h
noncomputable def f209_69 (K23 : Nat → Int32 → Int32 → xM → Option (Int32 × xM)) (l0 : Nat) (l2 : Int32) (σ : xM) : Option (Int32 × xM) :=
  f209_71 K23 l0 l2 l2 σ
set_option maxRecDepth 20000 in
set_option maxHeartbeats 1000000 in
theorem e209_69 (d : Nat) (K23 : Nat → Int32 → Int32 → xM → Option (Int32 × xM)) (hK23 : ∀ (l0 : Nat) (l1 : Int32) (l2 : Int32) (σ : xM) (y : Int32 × xM), K23 l0 l1 l2 σ = some y → Rn (d + 1) 209 23 [.ref l0, .int l1, .int l2] [] σ (some (.int y.1), y.2)) (l0 : Nat) (l2 : Int32) (x1 : Value) (σ : xM) (y : Int32 × xM) (h : f209_69 K23 l0 l2 σ = some y) : Rn (d + 1) 209 69 [.ref l0, x1, .int l2] [] σ (some (.int y.1), y.2) := by
  unfold f209_69 at h
  refine rn_steps 2 71 [.ref l0, .int l2, .int l2] [] rfl ?_
  exact e209_71 d _ hK23 _ _ _ _ _ h
noncomputable def f209_23 : Nat → Nat → Int32 → Int32 → xM → Option (Int32 × xM)
  | 0, _, _, _, _ => none
  | n + 1, l0, l1, l2, σ =>
    (gR σ l0 9 3).bind fun r1 =>
    (gI σ r1 8 2).bind fun v2 =>
    if v2 ≤ l2 then
    f209_77 l0 l1 σ
    else
    (gR σ l0 9 16).bind fun r3 =>
    (aI σ r3 42).bind fun v4 =>
    (f157 v4 l2 σ).bind fun y5 =>
    if y5.1 = 0 then
    f209_71 (f209_23 n) l0 l1 l2 y5.2
    else
    if l1 = (-2) then
    f209_69 (f209_23 n) l0 l2 y5.2
    else
    (gR y5.2 l0 9 16).bind fun r6 =>
    (aI y5.2 r6 l2).bind fun v7 =>
    (gR y5.2 l0 9 16).bind fun r8 =>
    (aI y5.2 r8 l1).bind fun v9 =>
    if v7 ≤ v9 then
    f209_71 (f209_23 n) l0 l1 l2 y5.2
    else
    f209_69 (f209_23 n) l0 l2 y5.2
set_option maxRecDepth 20000 in
set_option maxHeartbeats 1000000 in
theorem e209_23 (d : Nat) : ∀ (n : Nat) (l0 : Nat) (l1 : Int32) (l2 : Int32) (σ : xM) (y : Int32 × xM), f209_23 n l0 l1 l2 σ = some y → Rn (d + 1) 209 23 [.ref l0, .int l1, .int l2] [] σ (some (.int y.1), y.2) := by
  intro n
  induction n with
  | zero => intro l0 l1 l2 σ y h; cases h
  | succ n ih =>
    intro l0 l1 l2 σ y h
    unfold f209_23 at h
    refine rn_steps 2 25 [.ref l0, .int l1, .int l2] [.ref l0, .int l2] rfl ?_
    obtain ⟨r1, hr1, h⟩ := Option.bind_eq_some_iff.mp h
    refine rn_gR (c := 9) (f := 3) rfl rfl ⟨⟨rfl, rfl⟩, rfl⟩ hr1 ?_
    refine rn_steps 0 28 [.ref l0, .int l1, .int l2] [.ref r1, .int l2] rfl ?_
    obtain ⟨v2, hv2, h⟩ := Option.bind_eq_some_iff.mp h
    refine rn_gI (c := 8) (f := 2) rfl rfl ⟨⟨rfl, rfl⟩, Or.inl rfl⟩ hv2 ?_
    refine rn_steps 0 31 [.ref l0, .int l1, .int l2] [.int v2, .int l2] rfl ?_
    refine rn_br (c := v2 ≤ l2) rfl rfl decide_eq_true_iff (fun hb => ?_) (fun hb => ?_)
    · rw [if_pos hb] at h
      refine rn_steps 0 77 [.ref l0, .int l1, .int l2] [] rfl ?_
      exact e209_77 d _ _ _ _ _ h
    · rw [if_neg hb] at h
      refine rn_steps 1 35 [.ref l0, .int l1, .int l2] [.ref l0] rfl ?_
      obtain ⟨r3, hr3, h⟩ := Option.bind_eq_some_iff.mp h
      refine rn_gR (c := 9) (f := 16) rfl rfl ⟨⟨rfl, rfl⟩, rfl⟩ hr3 ?_
      refine rn_steps 1 40 [.ref l0, .int l1, .int l2] [.int 42, .ref r3] rfl ?_
      obtain ⟨v4, hv4, h⟩ := Option.bind_eq_some_iff.mp h
      refine rn_aI rfl hv4 ?_
      refine rn_steps 1 42 [.ref l0, .int l1, .int l2] [.int l2, .int v4] rfl ?_
      obtain ⟨y5, hy5, h⟩ := Option.bind_eq_some_iff.mp h
      refine rn_callS [.int v4, .int l2] rfl rfl rfl ⟨rfl, rfl, rfl⟩ rfl rfl (e157 d hy5) ?_
      refine rn_steps 0 45 [.ref l0, .int l1, .int l2] [.int y5.1] rfl ?_
      refine rn_br (c := y5.1 = 0) rfl rfl decide_eq_true_iff (fun hb => ?_) (fun hb => ?_)
      · rw [if_pos hb] at h
        refine rn_steps 0 71 [.ref l0, .int l1, .int l2] [] rfl ?_
        exact e209_71 d _ ih _ _ _ _ _ h
      · rw [if_neg hb] at h
        refine rn_steps 2 51 [.ref l0, .int l1, .int l2] [.int (-2), .int l1] rfl ?_
        refine rn_br (c := l1 = (-2)) rfl rfl decide_eq_true_iff (fun hb => ?_) (fun hb => ?_)
        · rw [if_pos hb] at h
          refine rn_steps 0 69 [.ref l0, .int l1, .int l2] [] rfl ?_
          exact e209_69 d _ ih _ _ _ _ _ h
        · rw [if_neg hb] at h
          refine rn_steps 1 55 [.ref l0, .int l1, .int l2] [.ref l0] rfl ?_
          obtain ⟨r6, hr6, h⟩ := Option.bind_eq_some_iff.mp h
          refine rn_gR (c := 9) (f := 16) rfl rfl ⟨⟨rfl, rfl⟩, rfl⟩ hr6 ?_
          refine rn_steps 1 59 [.ref l0, .int l1, .int l2] [.int l2, .ref r6] rfl ?_
          obtain ⟨v7, hv7, h⟩ := Option.bind_eq_some_iff.mp h
          refine rn_aI rfl hv7 ?_
          refine rn_steps 1 61 [.ref l0, .int l1, .int l2] [.ref l0, .int v7] rfl ?_
          obtain ⟨r8, hr8, h⟩ := Option.bind_eq_some_iff.mp h
          refine rn_gR (c := 9) (f := 16) rfl rfl ⟨⟨rfl, rfl⟩, rfl⟩ hr8 ?_
          refine rn_steps 1 65 [.ref l0, .int l1, .int l2] [.int l1, .ref r8, .int v7] rfl ?_
          obtain ⟨v9, hv9, h⟩ := Option.bind_eq_some_iff.mp h
          refine rn_aI rfl hv9 ?_
          refine rn_steps 0 66 [.ref l0, .int l1, .int l2] [.int v9, .int v7] rfl ?_
          refine rn_br (c := v7 ≤ v9) rfl rfl decide_eq_true_iff (fun hb => ?_) (fun hb => ?_)
          · rw [if_pos hb] at h
            refine rn_steps 0 71 [.ref l0, .int l1, .int l2] [] rfl ?_
            exact e209_71 d _ ih _ _ _ _ _ h
          · rw [if_neg hb] at h
            refine rn_steps 0 69 [.ref l0, .int l1, .int l2] [] rfl ?_
            exact e209_69 d _ ih _ _ _ _ _ h
/-- LastAskedModel.richest()I -/
noncomputable def f209 (l0 : Nat) (σ : xM) : Option (Int32 × xM) :=
  (pI σ l0 9 0 0).bind fun σ1 =>
  (gQ σ1 l0 9 3).bind fun q2 =>
  match q2 with
  | none =>
  (cO σ1 l0 9).bind fun u5 =>
  (f151 l0 1 σ1).bind fun y4 =>
  some (y4.1, y4.2)
  | some b3 =>
  f209_23 1100 l0 (-2) 0 σ1
set_option maxRecDepth 20000 in
set_option maxHeartbeats 1000000 in
theorem e209 (d : Nat) {l0 : Nat} {σ : xM} {y : Int32 × xM} (h : f209 l0 σ = some y) : Rn (d + 1) 209 0 [.ref l0, .retAddr 0, .retAddr 0] [] σ (some (.int y.1), y.2) := by
  unfold f209 at h
  refine rn_steps 2 2 [.ref l0, .retAddr 0, .retAddr 0] [.int 0, .ref l0] rfl ?_
  obtain ⟨σ1, hσ1, h⟩ := Option.bind_eq_some_iff.mp h
  refine rn_pI (c := 9) (f := 0) rfl rfl ⟨⟨rfl, rfl⟩, rfl⟩ hσ1 ?_
  refine rn_steps 1 6 [.ref l0, .retAddr 0, .retAddr 0] [.ref l0] rfl ?_
  obtain ⟨q2, hq2, h⟩ := Option.bind_eq_some_iff.mp h
  refine rn_gQ (c := 9) (f := 3) rfl rfl ⟨⟨rfl, rfl⟩, rfl⟩ hq2 ?_
  cases q2 with
  | none =>
    dsimp only at h
    refine rn_steps 3 14 [.ref l0, .retAddr 0, .retAddr 0] [.int 1, .ref l0] rfl ?_
    obtain ⟨u5, hu5, h⟩ := Option.bind_eq_some_iff.mp h
    obtain ⟨y4, hy4, h⟩ := Option.bind_eq_some_iff.mp h
    refine rn_callV [.int 1] rfl rfl ⟨rfl, rfl⟩ hu5 rfl rfl (e151 d hy4) ?_
    refine rn_steps 0 17 [.ref l0, .retAddr 0, .retAddr 0] [.int y4.1] rfl ?_
    cases h
    exact rn_ret rfl rfl rfl
  | some b3 =>
    dsimp only at h
    refine rn_steps 5 23 [.ref l0, .int (-2), .int 0] [] rfl ?_
    exact e209_23 d 1100 _ _ _ _ _ h
noncomputable def f210_36 (s0 : Int32) (σ : xM) : Option (Int32 × xM) :=
  rZ s0 σ
set_option maxRecDepth 20000 in
set_option maxHeartbeats 1000000 in
theorem e210_36 (d : Nat) (s0 : Int32) (x0 x1 : Value) (σ : xM) (y : Int32 × xM) (h : f210_36 s0 σ = some y) : Rn (d + 0) 210 36 [x0, x1] [.int s0] σ (some (.int y.1), y.2) := by
  unfold f210_36 at h
  exact rn_retZ rfl rfl h
noncomputable def f210_35 (σ : xM) : Option (Int32 × xM) :=
  f210_36 0 σ
set_option maxRecDepth 20000 in
set_option maxHeartbeats 1000000 in
theorem e210_35 (d : Nat) (x0 x1 : Value) (σ : xM) (y : Int32 × xM) (h : f210_35 σ = some y) : Rn (d + 0) 210 35 [x0, x1] [] σ (some (.int y.1), y.2) := by
  unfold f210_35 at h
  refine rn_steps 1 36 [x0, x1] [.int 0] rfl ?_
  exact e210_36 d _ _ _ _ _ h
/-- LastAskedModel.canDie(I)Z -/
noncomputable def f210 (l0 : Nat) (l1 : Int32) (σ : xM) : Option (Int32 × xM) :=
  if l1 < 0 then
  f210_35 σ
  else
  (gR σ l0 9 3).bind fun r1 =>
  (gI σ r1 8 2).bind fun v2 =>
  if (1 <<< (v2 &&& 31)) ≤ l1 then
  f210_35 σ
  else
  (gR σ l0 9 16).bind fun r3 =>
  (aI σ r3 42).bind fun v4 =>
  if (l1 &&& (v4 ^^^ (-1))) = 0 then
  f210_36 1 σ
  else
  f210_35 σ
set_option maxRecDepth 20000 in
set_option maxHeartbeats 1000000 in
theorem e210 (d : Nat) {l0 : Nat} {l1 : Int32} {σ : xM} {y : Int32 × xM} (h : f210 l0 l1 σ = some y) : Rn (d + 0) 210 0 [.ref l0, .int l1] [] σ (some (.int y.1), y.2) := by
  unfold f210 at h
  refine rn_steps 1 1 [.ref l0, .int l1] [.int l1] rfl ?_
  refine rn_br (c := l1 < 0) rfl rfl decide_eq_true_iff (fun hb => ?_) (fun hb => ?_)
  · rw [if_pos hb] at h
    refine rn_steps 0 35 [.ref l0, .int l1] [] rfl ?_
    exact e210_35 d _ _ _ _ h
  · rw [if_neg hb] at h
    refine rn_steps 3 7 [.ref l0, .int l1] [.ref l0, .int 1, .int l1] rfl ?_
    obtain ⟨r1, hr1, h⟩ := Option.bind_eq_some_iff.mp h
    refine rn_gR (c := 9) (f := 3) rfl rfl ⟨⟨rfl, rfl⟩, rfl⟩ hr1 ?_
    refine rn_steps 0 10 [.ref l0, .int l1] [.ref r1, .int 1, .int l1] rfl ?_
    obtain ⟨v2, hv2, h⟩ := Option.bind_eq_some_iff.mp h
    refine rn_gI (c := 8) (f := 2) rfl rfl ⟨⟨rfl, rfl⟩, Or.inl rfl⟩ hv2 ?_
    refine rn_steps 1 14 [.ref l0, .int l1] [.int (1 <<< (v2 &&& 31)), .int l1] rfl ?_
    refine rn_br (c := (1 <<< (v2 &&& 31)) ≤ l1) rfl rfl decide_eq_true_iff (fun hb => ?_) (fun hb => ?_)
    · rw [if_pos hb] at h
      refine rn_steps 0 35 [.ref l0, .int l1] [] rfl ?_
      exact e210_35 d _ _ _ _ h
    · rw [if_neg hb] at h
      refine rn_steps 2 19 [.ref l0, .int l1] [.ref l0, .int l1] rfl ?_
      obtain ⟨r3, hr3, h⟩ := Option.bind_eq_some_iff.mp h
      refine rn_gR (c := 9) (f := 16) rfl rfl ⟨⟨rfl, rfl⟩, rfl⟩ hr3 ?_
      refine rn_steps 1 24 [.ref l0, .int l1] [.int 42, .ref r3, .int l1] rfl ?_
      obtain ⟨v4, hv4, h⟩ := Option.bind_eq_some_iff.mp h
      refine rn_aI rfl hv4 ?_
      refine rn_steps 3 28 [.ref l0, .int l1] [.int (l1 &&& (v4 ^^^ (-1)))] rfl ?_
      refine rn_br (c := ¬ (l1 &&& (v4 ^^^ (-1))) = 0) rfl rfl decide_eq_true_iff (fun hb => ?_) (fun hb => ?_)
      · rw [if_neg hb] at h
        refine rn_steps 0 35 [.ref l0, .int l1] [] rfl ?_
        exact e210_35 d _ _ _ _ h
      · rw [if_pos (Decidable.not_not.mp hb)] at h
        refine rn_steps 2 36 [.ref l0, .int l1] [.int 1] rfl ?_
        exact e210_36 d _ _ _ _ _ h
noncomputable def f211_35 (l0 : Nat) (σ : xM) : Option (Int32 × xM) :=
  (cO σ l0 9).bind fun u2 =>
  (f151 l0 2 σ).bind fun y1 =>
  some (y1.1, y1.2)
set_option maxRecDepth 20000 in
set_option maxHeartbeats 1000000 in
theorem e211_35 (d : Nat) (l0 : Nat) (x1 x2 : Value) (σ : xM) (y : Int32 × xM) (h : f211_35 l0 σ = some y) : Rn (d + 5) 211 35 [.ref l0, x1, x2] [] σ (some (.int y.1), y.2) := by
  unfold f211_35 at h
  refine rn_steps 2 37 [.ref l0, x1, x2] [.int 2, .ref l0] rfl ?_
  obtain ⟨u2, hu2, h⟩ := Option.bind_eq_some_iff.mp h
  obtain ⟨y1, hy1, h⟩ := Option.bind_eq_some_iff.mp h
  refine rn_callV [.int 2] rfl rfl ⟨rfl, rfl⟩ hu2 rfl rfl (e151 (d + 4) hy1) ?_
  refine rn_steps 0 40 [.ref l0, x1, x2] [.int y1.1] rfl ?_
  cases h
  exact rn_ret rfl rfl rfl
/-- LastAskedModel.goesTo(II)I -/
noncomputable def f211 (l0 : Nat) (l1 : Int32) (l2 : Int32) (σ : xM) : Option (Int32 × xM) :=
  (pI σ l0 9 0 0).bind fun σ1 =>
  (cO σ1 l0 9).bind fun u14 =>
  (f186 l0 l1 σ1).bind fun y2 =>
  if y2.1 = 0 then
  (cO y2.2 l0 9).bind fun u13 =>
  (f151 l0 1 y2.2).bind fun y12 =>
  some (y12.1, y12.2)
  else
  (cO y2.2 l0 9).bind fun u11 =>
  (f210 l0 l2 y2.2).bind fun y3 =>
  if y3.1 = 0 then
  f211_35 l0 y3.2
  else
  (f157 l2 l1 y3.2).bind fun y4 =>
  if y4.1 = 0 then
  f211_35 l0 y4.2
  else
  (cO y4.2 l0 9).bind fun u10 =>
  (f197 l0 y4.2).bind fun y5 =>
  (cO y5 l0 9).bind fun u9 =>
  (f194 l0 l1 l2 y5).bind fun y6 =>
  (cO y6.2 l0 9).bind fun u8 =>
  (f154 l0 y6.1 y6.2).bind fun y7 =>
  some (y7.1, y7.2)
set_option maxRecDepth 20000 in
set_option maxHeartbeats 1000000 in
theorem e211 (d : Nat) {l0 : Nat} {l1 : Int32} {l2 : Int32} {σ : xM} {y : Int32 × xM} (h : f211 l0 l1 l2 σ = some y) : Rn (d + 5) 211 0 [.ref l0, .int l1, .int l2] [] σ (some (.int y.1), y.2) := by
  unfold f211 at h
  refine rn_steps 2 2 [.ref l0, .int l1, .int l2] [.int 0, .ref l0] rfl ?_
  obtain ⟨σ1, hσ1, h⟩ := Option.bind_eq_some_iff.mp h
  refine rn_pI (c := 9) (f := 0) rfl rfl ⟨⟨rfl, rfl⟩, rfl⟩ hσ1 ?_
  refine rn_steps 2 7 [.ref l0, .int l1, .int l2] [.int l1, .ref l0] rfl ?_
  obtain ⟨u14, hu14, h⟩ := Option.bind_eq_some_iff.mp h
  obtain ⟨y2, hy2, h⟩ := Option.bind_eq_some_iff.mp h
  refine rn_callV [.int l1] rfl rfl ⟨rfl, rfl⟩ hu14 rfl rfl (e186 (d + 4) hy2) ?_
  refine rn_steps 0 10 [.ref l0, .int l1, .int l2] [.int y2.1] rfl ?_
  refine rn_br (c := ¬ y2.1 = 0) rfl rfl decide_eq_true_iff (fun hb => ?_) (fun hb => ?_)
  · rw [if_neg hb] at h
    refine rn_steps 2 21 [.ref l0, .int l1, .int l2] [.int l2, .ref l0] rfl ?_
    obtain ⟨u11, hu11, h⟩ := Option.bind_eq_some_iff.mp h
    obtain ⟨y3, hy3, h⟩ := Option.bind_eq_some_iff.mp h
    refine rn_callV [.int l2] rfl rfl ⟨rfl, rfl⟩ hu11 rfl rfl (e210 (d + 4) hy3) ?_
    refine rn_steps 0 24 [.ref l0, .int l1, .int l2] [.int y3.1] rfl ?_
    refine rn_br (c := y3.1 = 0) rfl rfl decide_eq_true_iff (fun hb => ?_) (fun hb => ?_)
    · rw [if_pos hb] at h
      refine rn_steps 0 35 [.ref l0, .int l1, .int l2] [] rfl ?_
      exact e211_35 d _ _ _ _ _ h
    · rw [if_neg hb] at h
      refine rn_steps 2 29 [.ref l0, .int l1, .int l2] [.int l1, .int l2] rfl ?_
      obtain ⟨y4, hy4, h⟩ := Option.bind_eq_some_iff.mp h
      refine rn_callS [.int l2, .int l1] rfl rfl rfl ⟨rfl, rfl, rfl⟩ rfl rfl (e157 (d + 4) hy4) ?_
      refine rn_steps 0 32 [.ref l0, .int l1, .int l2] [.int y4.1] rfl ?_
      refine rn_br (c := ¬ y4.1 = 0) rfl rfl decide_eq_true_iff (fun hb => ?_) (fun hb => ?_)
      · rw [if_neg hb] at h
        refine rn_steps 1 42 [.ref l0, .int l1, .int l2] [.ref l0] rfl ?_
        obtain ⟨u10, hu10, h⟩ := Option.bind_eq_some_iff.mp h
        obtain ⟨y5, hy5, h⟩ := Option.bind_eq_some_iff.mp h
        refine rn_callV [] rfl rfl ⟨rfl, rfl⟩ hu10 rfl rfl (e197 d hy5) ?_
        refine rn_steps 4 49 [.ref l0, .int l1, .int l2] [.int l2, .int l1, .ref l0, .ref l0] rfl ?_
        obtain ⟨u9, hu9, h⟩ := Option.bind_eq_some_iff.mp h
        obtain ⟨y6, hy6, h⟩ := Option.bind_eq_some_iff.mp h
        refine rn_callV [.int l1, .int l2] rfl rfl ⟨rfl, rfl⟩ hu9 rfl rfl (e194 (d + 3) hy6) ?_
        refine rn_steps 0 52 [.ref l0, .int l1, .int l2] [.int y6.1, .ref l0] rfl ?_
        obtain ⟨u8, hu8, h⟩ := Option.bind_eq_some_iff.mp h
        obtain ⟨y7, hy7, h⟩ := Option.bind_eq_some_iff.mp h
        refine rn_callV [.int y6.1] rfl rfl ⟨rfl, rfl⟩ hu8 rfl rfl (e154 (d + 4) hy7) ?_
        refine rn_steps 0 55 [.ref l0, .int l1, .int l2] [.int y7.1] rfl ?_
        cases h
        exact rn_ret rfl rfl rfl
      · rw [if_pos (Decidable.not_not.mp hb)] at h
        refine rn_steps 0 35 [.ref l0, .int l1, .int l2] [] rfl ?_
        exact e211_35 d _ _ _ _ _ h
  · rw [if_pos (Decidable.not_not.mp hb)] at h
    refine rn_steps 2 15 [.ref l0, .int l1, .int l2] [.int 1, .ref l0] rfl ?_
    obtain ⟨u13, hu13, h⟩ := Option.bind_eq_some_iff.mp h
    obtain ⟨y12, hy12, h⟩ := Option.bind_eq_some_iff.mp h
    refine rn_callV [.int 1] rfl rfl ⟨rfl, rfl⟩ hu13 rfl rfl (e151 (d + 4) hy12) ?_
    refine rn_steps 0 18 [.ref l0, .int l1, .int l2] [.int y12.1] rfl ?_
    cases h
    exact rn_ret rfl rfl rfl
/-- LastAskedModel.hasThen(II)I -/
noncomputable def f212 (l0 : Nat) (l1 : Int32) (l2 : Int32) (σ : xM) : Option (Int32 × xM) :=
  (pI σ l0 9 0 0).bind fun σ1 =>
  (cO σ1 l0 9).bind fun u17 =>
  (f203 l0 l1 σ1).bind fun y2 =>
  if y2.1 ≤ 0 then
  (cO y2.2 l0 9).bind fun u14 =>
  (f210 l0 l2 y2.2).bind fun y3 =>
  if y3.1 = 0 then
  (cO y3.2 l0 9).bind fun u13 =>
  (f151 l0 2 y3.2).bind fun y12 =>
  some (y12.1, y12.2)
  else
  (cO y3.2 l0 9).bind fun u11 =>
  (f197 l0 y3.2).bind fun y4 =>
  (cO y4 l0 9).bind fun u10 =>
  (f195 l0 l2 y4).bind fun y5 =>
  (gR y5 l0 9 23).bind fun r6 =>
  (aI y5 r6 l1).bind fun v7 =>
  (cO y5 l0 9).bind fun u9 =>
  (f154 l0 v7 y5).bind fun y8 =>
  some (y8.1, y8.2)
  else
  (cO y2.2 l0 9).bind fun u16 =>
  (f151 l0 y2.1 y2.2).bind fun y15 =>
  some (y15.1, y15.2)
set_option maxRecDepth 20000 in
set_option maxHeartbeats 1000000 in
theorem e212 (d : Nat) {l0 : Nat} {l1 : Int32} {l2 : Int32} {σ : xM} {y : Int32 × xM} (h : f212 l0 l1 l2 σ = some y) : Rn (d + 5) 212 0 [.ref l0, .int l1, .int l2, .retAddr 0] [] σ (some (.int y.1), y.2) := by
  unfold f212 at h
  refine rn_steps 2 2 [.ref l0, .int l1, .int l2, .retAddr 0] [.int 0, .ref l0] rfl ?_
  obtain ⟨σ1, hσ1, h⟩ := Option.bind_eq_some_iff.mp h
  refine rn_pI (c := 9) (f := 0) rfl rfl ⟨⟨rfl, rfl⟩, rfl⟩ hσ1 ?_
  refine rn_steps 2 7 [.ref l0, .int l1, .int l2, .retAddr 0] [.int l1, .ref l0] rfl ?_
  obtain ⟨u17, hu17, h⟩ := Option.bind_eq_some_iff.mp h
  obtain ⟨y2, hy2, h⟩ := Option.bind_eq_some_iff.mp h
  refine rn_callV [.int l1] rfl rfl ⟨rfl, rfl⟩ hu17 rfl rfl (e203 (d + 3) hy2) ?_
  refine rn_steps 2 12 [.ref l0, .int l1, .int l2, .int y2.1] [.int y2.1] rfl ?_
  refine rn_br (c := y2.1 ≤ 0) rfl rfl decide_eq_true_iff (fun hb => ?_) (fun hb => ?_)
  · rw [if_pos hb] at h
    refine rn_steps 2 23 [.ref l0, .int l1, .int l2, .int y2.1] [.int l2, .ref l0] rfl ?_
    obtain ⟨u14, hu14, h⟩ := Option.bind_eq_some_iff.mp h
    obtain ⟨y3, hy3, h⟩ := Option.bind_eq_some_iff.mp h
    refine rn_callV [.int l2] rfl rfl ⟨rfl, rfl⟩ hu14 rfl rfl (e210 (d + 4) hy3) ?_
    refine rn_steps 0 26 [.ref l0, .int l1, .int l2, .int y2.1] [.int y3.1] rfl ?_
    refine rn_br (c := ¬ y3.1 = 0) rfl rfl decide_eq_true_iff (fun hb => ?_) (fun hb => ?_)
    · rw [if_neg hb] at h
      refine rn_steps 1 36 [.ref l0, .int l1, .int l2, .int y2.1] [.ref l0] rfl ?_
      obtain ⟨u11, hu11, h⟩ := Option.bind_eq_some_iff.mp h
      obtain ⟨y4, hy4, h⟩ := Option.bind_eq_some_iff.mp h
      refine rn_callV [] rfl rfl ⟨rfl, rfl⟩ hu11 rfl rfl (e197 d hy4) ?_
      refine rn_steps 2 41 [.ref l0, .int l1, .int l2, .int y2.1] [.int l2, .ref l0] rfl ?_
      obtain ⟨u10, hu10, h⟩ := Option.bind_eq_some_iff.mp h
      obtain ⟨y5, hy5, h⟩ := Option.bind_eq_some_iff.mp h
      refine rn_callV [.int l2] rfl rfl ⟨rfl, rfl⟩ hu10 rfl rfl (e195 (d + 2) hy5) ?_
      refine rn_steps 2 46 [.ref l0, .int l1, .int l2, .int y2.1] [.ref l0, .ref l0] rfl ?_
      obtain ⟨r6, hr6, h⟩ := Option.bind_eq_some_iff.mp h
      refine rn_gR (c := 9) (f := 23) rfl rfl ⟨⟨rfl, rfl⟩, rfl⟩ hr6 ?_
      refine rn_steps 1 50 [.ref l0, .int l1, .int l2, .int y2.1] [.int l1, .ref r6, .ref l0] rfl ?_
      obtain ⟨v7, hv7, h⟩ := Option.bind_eq_some_iff.mp h
      refine rn_aI rfl hv7 ?_
      refine rn_steps 0 51 [.ref l0, .int l1, .int l2, .int y2.1] [.int v7, .ref l0] rfl ?_
      obtain ⟨u9, hu9, h⟩ := Option.bind_eq_some_iff.mp h
      obtain ⟨y8, hy8, h⟩ := Option.bind_eq_some_iff.mp h
      refine rn_callV [.int v7] rfl rfl ⟨rfl, rfl⟩ hu9 rfl rfl (e154 (d + 4) hy8) ?_
      refine rn_steps 0 54 [.ref l0, .int l1, .int l2, .int y2.1] [.int y8.1] rfl ?_
      cases h
      exact rn_ret rfl rfl rfl
    · rw [if_pos (Decidable.not_not.mp hb)] at h
      refine rn_steps 2 31 [.ref l0, .int l1, .int l2, .int y2.1] [.int 2, .ref l0] rfl ?_
      obtain ⟨u13, hu13, h⟩ := Option.bind_eq_some_iff.mp h
      obtain ⟨y12, hy12, h⟩ := Option.bind_eq_some_iff.mp h
      refine rn_callV [.int 2] rfl rfl ⟨rfl, rfl⟩ hu13 rfl rfl (e151 (d + 4) hy12) ?_
      refine rn_steps 0 34 [.ref l0, .int l1, .int l2, .int y2.1] [.int y12.1] rfl ?_
      cases h
      exact rn_ret rfl rfl rfl
  · rw [if_neg hb] at h
    refine rn_steps 2 17 [.ref l0, .int l1, .int l2, .int y2.1] [.int y2.1, .ref l0] rfl ?_
    obtain ⟨u16, hu16, h⟩ := Option.bind_eq_some_iff.mp h
    obtain ⟨y15, hy15, h⟩ := Option.bind_eq_some_iff.mp h
    refine rn_callV [.int y2.1] rfl rfl ⟨rfl, rfl⟩ hu16 rfl rfl (e151 (d + 4) hy15) ?_
    refine rn_steps 0 20 [.ref l0, .int l1, .int l2, .int y2.1] [.int y15.1] rfl ?_
    cases h
    exact rn_ret rfl rfl rfl
/-- LastAskedModel.catThen(I)I -/
noncomputable def f213 (l0 : Nat) (l1 : Int32) (σ : xM) : Option (Int32 × xM) :=
  (pI σ l0 9 0 0).bind fun σ1 =>
  (gQ σ1 l0 9 3).bind fun q2 =>
  match q2 with
  | none =>
  (cO σ1 l0 9).bind fun u5 =>
  (f151 l0 1 σ1).bind fun y4 =>
  some (y4.1, y4.2)
  | some b3 =>
  (cO σ1 l0 9).bind fun u16 =>
  (f210 l0 l1 σ1).bind fun y6 =>
  if y6.1 = 0 then
  (cO y6.2 l0 9).bind fun u15 =>
  (f151 l0 2 y6.2).bind fun y14 =>
  some (y14.1, y14.2)
  else
  (cO y6.2 l0 9).bind fun u13 =>
  (f197 l0 y6.2).bind fun y7 =>
  (cO y7 l0 9).bind fun u12 =>
  (f195 l0 l1 y7).bind fun y8 =>
  (gI y8 l0 9 24).bind fun v9 =>
  (cO y8 l0 9).bind fun u11 =>
  (f154 l0 v9 y8).bind fun y10 =>
  some (y10.1, y10.2)
set_option maxRecDepth 20000 in
set_option maxHeartbeats 1000000 in
theorem e213 (d : Nat) {l0 : Nat} {l1 : Int32} {σ : xM} {y : Int32 × xM} (h : f213 l0 l1 σ = some y) : Rn (d + 5) 213 0 [.ref l0, .int l1] [] σ (some (.int y.1), y.2) := by
  unfold f213 at h
  refine rn_steps 2 2 [.ref l0, .int l1] [.int 0, .ref l0] rfl ?_
  obtain ⟨σ1, hσ1, h⟩ := Option.bind_eq_some_iff.mp h
  refine rn_pI (c := 9) (f := 0) rfl rfl ⟨⟨rfl, rfl⟩, rfl⟩ hσ1 ?_
  refine rn_steps 1 6 [.ref l0, .int l1] [.ref l0] rfl ?_
  obtain ⟨q2, hq2, h⟩ := Option.bind_eq_some_iff.mp h
  refine rn_gQ (c := 9) (f := 3) rfl rfl ⟨⟨rfl, rfl⟩, rfl⟩ hq2 ?_
  cases q2 with
  | none =>
    dsimp only at h
    refine rn_steps 3 14 [.ref l0, .int l1] [.int 1, .ref l0] rfl ?_
    obtain ⟨u5, hu5, h⟩ := Option.bind_eq_some_iff.mp h
    obtain ⟨y4, hy4, h⟩ := Option.bind_eq_some_iff.mp h
    refine rn_callV [.int 1] rfl rfl ⟨rfl, rfl⟩ hu5 rfl rfl (e151 (d + 4) hy4) ?_
    refine rn_steps 0 17 [.ref l0, .int l1] [.int y4.1] rfl ?_
    cases h
    exact rn_ret rfl rfl rfl
  | some b3 =>
    dsimp only at h
    refine rn_steps 3 20 [.ref l0, .int l1] [.int l1, .ref l0] rfl ?_
    obtain ⟨u16, hu16, h⟩ := Option.bind_eq_some_iff.mp h
    obtain ⟨y6, hy6, h⟩ := Option.bind_eq_some_iff.mp h
    refine rn_callV [.int l1] rfl rfl ⟨rfl, rfl⟩ hu16 rfl rfl (e210 (d + 4) hy6) ?_
    refine rn_steps 0 23 [.ref l0, .int l1] [.int y6.1] rfl ?_
    refine rn_br (c := ¬ y6.1 = 0) rfl rfl decide_eq_true_iff (fun hb => ?_) (fun hb => ?_)
    · rw [if_neg hb] at h
      refine rn_steps 1 33 [.ref l0, .int l1] [.ref l0] rfl ?_
      obtain ⟨u13, hu13, h⟩ := Option.bind_eq_some_iff.mp h
      obtain ⟨y7, hy7, h⟩ := Option.bind_eq_some_iff.mp h
      refine rn_callV [] rfl rfl ⟨rfl, rfl⟩ hu13 rfl rfl (e197 d hy7) ?_
      refine rn_steps 2 38 [.ref l0, .int l1] [.int l1, .ref l0] rfl ?_
      obtain ⟨u12, hu12, h⟩ := Option.bind_eq_some_iff.mp h
      obtain ⟨y8, hy8, h⟩ := Option.bind_eq_some_iff.mp h
      refine rn_callV [.int l1] rfl rfl ⟨rfl, rfl⟩ hu12 rfl rfl (e195 (d + 2) hy8) ?_
      refine rn_steps 2 43 [.ref l0, .int l1] [.ref l0, .ref l0] rfl ?_
      obtain ⟨v9, hv9, h⟩ := Option.bind_eq_some_iff.mp h
      refine rn_gI (c := 9) (f := 24) rfl rfl ⟨⟨rfl, rfl⟩, Or.inl rfl⟩ hv9 ?_
      refine rn_steps 0 46 [.ref l0, .int l1] [.int v9, .ref l0] rfl ?_
      obtain ⟨u11, hu11, h⟩ := Option.bind_eq_some_iff.mp h
      obtain ⟨y10, hy10, h⟩ := Option.bind_eq_some_iff.mp h
      refine rn_callV [.int v9] rfl rfl ⟨rfl, rfl⟩ hu11 rfl rfl (e154 (d + 4) hy10) ?_
      refine rn_steps 0 49 [.ref l0, .int l1] [.int y10.1] rfl ?_
      cases h
      exact rn_ret rfl rfl rfl
    · rw [if_pos (Decidable.not_not.mp hb)] at h
      refine rn_steps 2 28 [.ref l0, .int l1] [.int 2, .ref l0] rfl ?_
      obtain ⟨u15, hu15, h⟩ := Option.bind_eq_some_iff.mp h
      obtain ⟨y14, hy14, h⟩ := Option.bind_eq_some_iff.mp h
      refine rn_callV [.int 2] rfl rfl ⟨rfl, rfl⟩ hu15 rfl rfl (e151 (d + 4) hy14) ?_
      refine rn_steps 0 31 [.ref l0, .int l1] [.int y14.1] rfl ?_
      cases h
      exact rn_ret rfl rfl rfl
noncomputable def f214_110 (l0 : Nat) (l1 : Int32) (σ : xM) : Option (Int32 × xM) :=
  (cO σ l0 9).bind fun u2 =>
  (f154 l0 l1 σ).bind fun y1 =>
  some (y1.1, y1.2)
set_option maxRecDepth 20000 in
set_option maxHeartbeats 1000000 in
theorem e214_110 (d : Nat) (l0 : Nat) (l1 : Int32) (x2 x3 x4 : Value) (σ : xM) (y : Int32 × xM) (h : f214_110 l0 l1 σ = some y) : Rn (d + 5) 214 110 [.ref l0, .int l1, x2, x3, x4] [] σ (some (.int y.1), y.2) := by
  unfold f214_110 at h
  refine rn_steps 2 112 [.ref l0, .int l1, x2, x3, x4] [.int l1, .ref l0] rfl ?_
  obtain ⟨u2, hu2, h⟩ := Option.bind_eq_some_iff.mp h
  obtain ⟨y1, hy1, h⟩ := Option.bind_eq_some_iff.mp h
  refine rn_callV [.int l1] rfl rfl ⟨rfl, rfl⟩ hu2 rfl rfl (e154 (d + 4) hy1) ?_
  refine rn_steps 0 115 [.ref l0, .int l1, x2, x3, x4] [.int y1.1] rfl ?_
  cases h
  exact rn_ret rfl rfl rfl
noncomputable def f214_104 (K26 : Nat → Int32 → Int32 → xM → Option (Int32 × xM)) (l0 : Nat) (l1 : Int32) (l2 : Int32) (σ : xM) : Option (Int32 × xM) :=
  K26 l0 l1 (l2 + 1) σ
set_option maxRecDepth 20000 in
set_option maxHeartbeats 1000000 in
theorem e214_104 (d : Nat) (K26 : Nat → Int32 → Int32 → xM → Option (Int32 × xM)) (hK26 : ∀ (l0 : Nat) (l1 : Int32) (l2 : Int32) (x3 x4 : Value) (σ : xM) (y : Int32 × xM), K26 l0 l1 l2 σ = some y → Rn (d + 5) 214 26 [.ref l0, .int l1, .int l2, x3, x4] [] σ (some (.int y.1), y.2)) (l0 : Nat) (l1 : Int32) (l2 : Int32) (x3 x4 : Value) (σ : xM) (y : Int32 × xM) (h : f214_104 K26 l0 l1 l2 σ = some y) : Rn (d + 5) 214 104 [.ref l0, .int l1, .int l2, x3, x4] [] σ (some (.int y.1), y.2) := by
  unfold f214_104 at h
  refine rn_steps 2 26 [.ref l0, .int l1, .int (l2 + 1), x3, x4] [] rfl ?_
  exact hK26 _ _ _ _ _ _ _ h
noncomputable def f214_102 (K26 : Nat → Int32 → Int32 → xM → Option (Int32 × xM)) (l0 : Nat) (l2 : Int32) (s0 : Int32) (s1 : Int32) (σ : xM) : Option (Int32 × xM) :=
  f214_104 K26 l0 (s1 ||| s0) l2 σ
set_option maxRecDepth 20000 in
set_option maxHeartbeats 1000000 in
theorem e214_102 (d : Nat) (K26 : Nat → Int32 → Int32 → xM → Option (Int32 × xM)) (hK26 : ∀ (l0 : Nat) (l1 : Int32) (l2 : Int32) (x3 x4 : Value) (σ : xM) (y : Int32 × xM), K26 l0 l1 l2 σ = some y → Rn (d + 5) 214 26 [.ref l0, .int l1, .int l2, x3, x4] [] σ (some (.int y.1), y.2)) (l0 : Nat) (l2 : Int32) (s0 : Int32) (s1 : Int32) (x1 x3 x4 : Value) (σ : xM) (y : Int32 × xM) (h : f214_102 K26 l0 l2 s0 s1 σ = some y) : Rn (d + 5) 214 102 [.ref l0, x1, .int l2, x3, x4] [.int s0, .int s1] σ (some (.int y.1), y.2) := by
  unfold f214_102 at h
  refine rn_steps 2 104 [.ref l0, .int (s1 ||| s0), .int l2, x3, x4] [] rfl ?_
  exact e214_104 d _ hK26 _ _ _ _ _ _ _ h
noncomputable def f214_89 (K26 : Nat → Int32 → Int32 → xM → Option (Int32 × xM)) (l0 : Nat) (l1 : Int32) (l2 : Int32) (l3 : Int32) (σ : xM) : Option (Int32 × xM) :=
  if l3 = l2 then
  f214_102 K26 l0 l2 (1 <<< (l2 &&& 31)) l1 σ
  else
  f214_102 K26 l0 l2 0 l1 σ
set_option maxRecDepth 20000 in
set_option maxHeartbeats 1000000 in
theorem e214_89 (d : Nat) (K26 : Nat → Int32 → Int32 → xM → Option (Int32 × xM)) (hK26 : ∀ (l0 : Nat) (l1 : Int32) (l2 : Int32) (x3 x4 : Value) (σ : xM) (y : Int32 × xM), K26 l0 l1 l2 σ = some y → Rn (d + 5) 214 26 [.ref l0, .int l1, .int l2, x3, x4] [] σ (some (.int y.1), y.2)) (l0 : Nat) (l1 : Int32) (l2 : Int32) (l3 : Int32) (x4 : Value) (σ : xM) (y : Int32 × xM) (h : f214_89 K26 l0 l1 l2 l3 σ = some y) : Rn (d + 5) 214 89 [.ref l0, .int l1, .int l2, .int l3, x4] [] σ (some (.int y.1), y.2) := by
  unfold f214_89 at h
  refine rn_steps 3 92 [.ref l0, .int l1, .int l2, .int l3, x4] [.int l2, .int l3, .int l1] rfl ?_
  refine rn_br (c := ¬ l3 = l2) rfl rfl decide_eq_true_iff (fun hb => ?_) (fun hb => ?_)
  · rw [if_neg hb] at h
    refine rn_steps 1 102 [.ref l0, .int l1, .int l2, .int l3, x4] [.int 0, .int l1] rfl ?_
    exact e214_102 d _ hK26 _ _ _ _ _ _ _ _ _ h
  · rw [if_pos (Decidable.not_not.mp hb)] at h
    refine rn_steps 4 102 [.ref l0, .int l1, .int l2, .int l3, x4] [.int (1 <<< (l2 &&& 31)), .int l1] rfl ?_
    exact e214_102 d _ hK26 _ _ _ _ _ _ _ _ _ h
noncomputable def f214_58 (K26 : Nat → Int32 → Int32 → xM → Option (Int32 × xM)) : Nat → Nat → Int32 → Int32 → Int32 → Int32 → xM → Option (Int32 × xM)
  | 0, _, _, _, _, _, _ => none
  | n + 1, l0, l1, l2, l3, l4, σ =>
    if 6 ≤ l4 then
    f214_89 K26 l0 l1 l2 l3 σ
    else
    if l3 = (-2) then
    f214_89 K26 l0 l1 l2 l3 σ
    else
    if l3 = l2 then
    f214_89 K26 l0 l1 l2 l3 σ
    else
    (gR σ l0 9 22).bind fun r1 =>
    (aI σ r1 l3).bind fun v2 =>
    (f214_58 K26 n) l0 l1 l2 v2 (l4 + 1) σ
set_option maxRecDepth 20000 in
set_option maxHeartbeats 1000000 in
theorem e214_58 (d : Nat) (K26 : Nat → Int32 → Int32 → xM → Option (Int32 × xM)) (hK26 : ∀ (l0 : Nat) (l1 : Int32) (l2 : Int32) (x3 x4 : Value) (σ : xM) (y : Int32 × xM), K26 l0 l1 l2 σ = some y → Rn (d + 5) 214 26 [.ref l0, .int l1, .int l2, x3, x4] [] σ (some (.int y.1), y.2)) : ∀ (n : Nat) (l0 : Nat) (l1 : Int32) (l2 : Int32) (l3 : Int32) (l4 : Int32) (σ : xM) (y : Int32 × xM), f214_58 K26 n l0 l1 l2 l3 l4 σ = some y → Rn (d + 5) 214 58 [.ref l0, .int l1, .int l2, .int l3, .int l4] [] σ (some (.int y.1), y.2) := by
  intro n
  induction n with
  | zero => intro l0 l1 l2 l3 l4 σ y h; cases h
  | succ n ih =>
    intro l0 l1 l2 l3 l4 σ y h
    unfold f214_58 at h
    refine rn_steps 2 62 [.ref l0, .int l1, .int l2, .int l3, .int l4] [.int 6, .int l4] rfl ?_
    refine rn_br (c := 6 ≤ l4) rfl rfl decide_eq_true_iff (fun hb => ?_) (fun hb => ?_)
    · rw [if_pos hb] at h
      refine rn_steps 0 89 [.ref l0, .int l1, .int l2, .int l3, .int l4] [] rfl ?_
      exact e214_89 d _ hK26 _ _ _ _ _ _ _ h
    · rw [if_neg hb] at h
      refine rn_steps 2 68 [.ref l0, .int l1, .int l2, .int l3, .int l4] [.int (-2), .int l3] rfl ?_
      refine rn_br (c := l3 = (-2)) rfl rfl decide_eq_true_iff (fun hb => ?_) (fun hb => ?_)
      · rw [if_pos hb] at h
        refine rn_steps 0 89 [.ref l0, .int l1, .int l2, .int l3, .int l4] [] rfl ?_
        exact e214_89 d _ hK26 _ _ _ _ _ _ _ h
      · rw [if_neg hb] at h
        refine rn_steps 2 73 [.ref l0, .int l1, .int l2, .int l3, .int l4] [.int l2, .int l3] rfl ?_
        refine rn_br (c := l3 = l2) rfl rfl decide_eq_true_iff (fun hb => ?_) (fun hb => ?_)
        · rw [if_pos hb] at h
          refine rn_steps 0 89 [.ref l0, .int l1, .int l2, .int l3, .int l4] [] rfl ?_
          exact e214_89 d _ hK26 _ _ _ _ _ _ _ h
        · rw [if_neg hb] at h
          refine rn_steps 1 77 [.ref l0, .int l1, .int l2, .int l3, .int l4] [.ref l0] rfl ?_
          obtain ⟨r1, hr1, h⟩ := Option.bind_eq_some_iff.mp h
          refine rn_gR (c := 9) (f := 22) rfl rfl ⟨⟨rfl, rfl⟩, rfl⟩ hr1 ?_
          refine rn_steps 1 81 [.ref l0, .int l1, .int l2, .int l3, .int l4] [.int l3, .ref r1] rfl ?_
          obtain ⟨v2, hv2, h⟩ := Option.bind_eq_some_iff.mp h
          refine rn_aI rfl hv2 ?_
          refine rn_steps 3 58 [.ref l0, .int l1, .int l2, .int v2, .int (l4 + 1)] [] rfl ?_
          exact ih _ _ _ _ _ _ _ h
noncomputable def f214_26 : Nat → Nat → Int32 → Int32 → xM → Option (Int32 × xM)
  | 0, _, _, _, _ => none
  | n + 1, l0, l1, l2, σ =>
    (gR σ l0 9 3).bind fun r1 =>
    (gI σ r1 8 2).bind fun v2 =>
    if v2 ≤ l2 then
    f214_110 l0 l1 σ
    else
    (cO σ l0 9).bind fun u6 =>
    (f190 l0 l2 σ).bind fun y3 =>
    if y3.1 = 0 then
    f214_104 (f214_26 n) l0 l1 l2 y3.2
    else
    (gR y3.2 l0 9 22).bind fun r4 =>
    (aI y3.2 r4 l2).bind fun v5 =>
    f214_58 (f214_26 n) 1100 l0 l1 l2 v5 0 y3.2
set_option maxRecDepth 20000 in
set_option maxHeartbeats 1000000 in
theorem e214_26 (d : Nat) : ∀ (n : Nat) (l0 : Nat) (l1 : Int32) (l2 : Int32) (x3 x4 : Value) (σ : xM) (y : Int32 × xM), f214_26 n l0 l1 l2 σ = some y → Rn (d + 5) 214 26 [.ref l0, .int l1, .int l2, x3, x4] [] σ (some (.int y.1), y.2) := by
  intro n
  induction n with
  | zero => intro l0 l1 l2 x3 x4 σ y h; cases h
  | succ n ih =>
    intro l0 l1 l2 x3 x4 σ y h
    unfold f214_26 at h
    refine rn_steps 2 28 [.ref l0, .int l1, .int l2, x3, x4] [.ref l0, .int l2] rfl ?_
    obtain ⟨r1, hr1, h⟩ := Option.bind_eq_some_iff.mp h
    refine rn_gR (c := 9) (f := 3) rfl rfl ⟨⟨rfl, rfl⟩, rfl⟩ hr1 ?_
    refine rn_steps 0 31 [.ref l0, .int l1, .int l2, x3, x4] [.ref r1, .int l2] rfl ?_
    obtain ⟨v2, hv2, h⟩ := Option.bind_eq_some_iff.mp h
    refine rn_gI (c := 8) (f := 2) rfl rfl ⟨⟨rfl, rfl⟩, Or.inl rfl⟩ hv2 ?_
    refine rn_steps 0 34 [.ref l0, .int l1, .int l2, x3, x4] [.int v2, .int l2] rfl ?_
    refine rn_br (c := v2 ≤ l2) rfl rfl decide_eq_true_iff (fun hb => ?_) (fun hb => ?_)
    · rw [if_pos hb] at h
      refine rn_steps 0 110 [.ref l0, .int l1, .int l2, x3, x4] [] rfl ?_
      exact e214_110 d _ _ _ _ _ _ _ h
    · rw [if_neg hb] at h
      refine rn_steps 2 39 [.ref l0, .int l1, .int l2, x3, x4] [.int l2, .ref l0] rfl ?_
      obtain ⟨u6, hu6, h⟩ := Option.bind_eq_some_iff.mp h
      obtain ⟨y3, hy3, h⟩ := Option.bind_eq_some_iff.mp h
      refine rn_callV [.int l2] rfl rfl ⟨rfl, rfl⟩ hu6 rfl rfl (e190 (d + 3) hy3) ?_
      refine rn_steps 0 42 [.ref l0, .int l1, .int l2, x3, x4] [.int y3.1] rfl ?_
      refine rn_br (c := ¬ y3.1 = 0) rfl rfl decide_eq_true_iff (fun hb => ?_) (fun hb => ?_)
      · rw [if_neg hb] at h
        refine rn_steps 1 49 [.ref l0, .int l1, .int l2, x3, x4] [.ref l0] rfl ?_
        obtain ⟨r4, hr4, h⟩ := Option.bind_eq_some_iff.mp h
        refine rn_gR (c := 9) (f := 22) rfl rfl ⟨⟨rfl, rfl⟩, rfl⟩ hr4 ?_
        refine rn_steps 1 53 [.ref l0, .int l1, .int l2, x3, x4] [.int l2, .ref r4] rfl ?_
        obtain ⟨v5, hv5, h⟩ := Option.bind_eq_some_iff.mp h
        refine rn_aI rfl hv5 ?_
        refine rn_steps 3 58 [.ref l0, .int l1, .int l2, .int v5, .int 0] [] rfl ?_
        exact e214_58 d _ ih 1100 _ _ _ _ _ _ _ h
      · rw [if_pos (Decidable.not_not.mp hb)] at h
        refine rn_steps 1 104 [.ref l0, .int l1, .int l2, x3, x4] [] rfl ?_
        exact e214_104 d _ ih _ _ _ _ _ _ _ h
/-- LastAskedModel.rounds()I -/
noncomputable def f214 (l0 : Nat) (σ : xM) : Option (Int32 × xM) :=
  (pI σ l0 9 0 0).bind fun σ1 =>
  (gQ σ1 l0 9 3).bind fun q2 =>
  match q2 with
  | none =>
  (cO σ1 l0 9).bind fun u5 =>
  (f151 l0 1 σ1).bind fun y4 =>
  some (y4.1, y4.2)
  | some b3 =>
  (cO σ1 l0 9).bind fun u7 =>
  (f197 l0 σ1).bind fun y6 =>
  f214_26 1100 l0 0 0 y6
set_option maxRecDepth 20000 in
set_option maxHeartbeats 1000000 in
theorem e214 (d : Nat) {l0 : Nat} {σ : xM} {y : Int32 × xM} (h : f214 l0 σ = some y) : Rn (d + 5) 214 0 [.ref l0, .retAddr 0, .retAddr 0, .retAddr 0, .retAddr 0] [] σ (some (.int y.1), y.2) := by
  unfold f214 at h
  refine rn_steps 2 2 [.ref l0, .retAddr 0, .retAddr 0, .retAddr 0, .retAddr 0] [.int 0, .ref l0] rfl ?_
  obtain ⟨σ1, hσ1, h⟩ := Option.bind_eq_some_iff.mp h
  refine rn_pI (c := 9) (f := 0) rfl rfl ⟨⟨rfl, rfl⟩, rfl⟩ hσ1 ?_
  refine rn_steps 1 6 [.ref l0, .retAddr 0, .retAddr 0, .retAddr 0, .retAddr 0] [.ref l0] rfl ?_
  obtain ⟨q2, hq2, h⟩ := Option.bind_eq_some_iff.mp h
  refine rn_gQ (c := 9) (f := 3) rfl rfl ⟨⟨rfl, rfl⟩, rfl⟩ hq2 ?_
  cases q2 with
  | none =>
    dsimp only at h
    refine rn_steps 3 14 [.ref l0, .retAddr 0, .retAddr 0, .retAddr 0, .retAddr 0] [.int 1, .ref l0] rfl ?_
    obtain ⟨u5, hu5, h⟩ := Option.bind_eq_some_iff.mp h
    obtain ⟨y4, hy4, h⟩ := Option.bind_eq_some_iff.mp h
    refine rn_callV [.int 1] rfl rfl ⟨rfl, rfl⟩ hu5 rfl rfl (e151 (d + 4) hy4) ?_
    refine rn_steps 0 17 [.ref l0, .retAddr 0, .retAddr 0, .retAddr 0, .retAddr 0] [.int y4.1] rfl ?_
    cases h
    exact rn_ret rfl rfl rfl
  | some b3 =>
    dsimp only at h
    refine rn_steps 2 19 [.ref l0, .retAddr 0, .retAddr 0, .retAddr 0, .retAddr 0] [.ref l0] rfl ?_
    obtain ⟨u7, hu7, h⟩ := Option.bind_eq_some_iff.mp h
    obtain ⟨y6, hy6, h⟩ := Option.bind_eq_some_iff.mp h
    refine rn_callV [] rfl rfl ⟨rfl, rfl⟩ hu7 rfl rfl (e197 d hy6) ?_
    refine rn_steps 4 26 [.ref l0, .int 0, .int 0, .retAddr 0, .retAddr 0] [] rfl ?_
    exact e214_26 d 1100 _ _ _ _ _ _ _ h
noncomputable def f215_87 (l0 : Nat) (l1 : Int32) (σ : xM) : Option (Int32 × xM) :=
  (cO σ l0 9).bind fun u2 =>
  (f154 l0 l1 σ).bind fun y1 =>
  some (y1.1, y1.2)
set_option maxRecDepth 20000 in
set_option maxHeartbeats 1000000 in
theorem e215_87 (d : Nat) (l0 : Nat) (l1 : Int32) (x2 x3 : Value) (σ : xM) (y : Int32 × xM) (h : f215_87 l0 l1 σ = some y) : Rn (d + 5) 215 87 [.ref l0, .int l1, x2, x3] [] σ (some (.int y.1), y.2) := by
  unfold f215_87 at h
  refine rn_steps 2 89 [.ref l0, .int l1, x2, x3] [.int l1, .ref l0] rfl ?_
  obtain ⟨u2, hu2, h⟩ := Option.bind_eq_some_iff.mp h
  obtain ⟨y1, hy1, h⟩ := Option.bind_eq_some_iff.mp h
  refine rn_callV [.int l1] rfl rfl ⟨rfl, rfl⟩ hu2 rfl rfl (e154 (d + 4) hy1) ?_
  refine rn_steps 0 92 [.ref l0, .int l1, x2, x3] [.int y1.1] rfl ?_
  cases h
  exact rn_ret rfl rfl rfl
noncomputable def f215_81 (K29 : Nat → Int32 → Int32 → Int32 → xM → Option (Int32 × xM)) (l0 : Nat) (l1 : Int32) (l2 : Int32) (l3 : Int32) (σ : xM) : Option (Int32 × xM) :=
  K29 l0 l1 l2 (l3 + 1) σ
set_option maxRecDepth 20000 in
set_option maxHeartbeats 1000000 in
theorem e215_81 (d : Nat) (K29 : Nat → Int32 → Int32 → Int32 → xM → Option (Int32 × xM)) (hK29 : ∀ (l0 : Nat) (l1 : Int32) (l2 : Int32) (l3 : Int32) (σ : xM) (y : Int32 × xM), K29 l0 l1 l2 l3 σ = some y → Rn (d + 5) 215 29 [.ref l0, .int l1, .int l2, .int l3] [] σ (some (.int y.1), y.2)) (l0 : Nat) (l1 : Int32) (l2 : Int32) (l3 : Int32) (σ : xM) (y : Int32 × xM) (h : f215_81 K29 l0 l1 l2 l3 σ = some y) : Rn (d + 5) 215 81 [.ref l0, .int l1, .int l2, .int l3] [] σ (some (.int y.1), y.2) := by
  unfold f215_81 at h
  refine rn_steps 2 29 [.ref l0, .int l1, .int l2, .int (l3 + 1)] [] rfl ?_
  exact hK29 _ _ _ _ _ _ h
noncomputable def f215_29 : Nat → Nat → Int32 → Int32 → Int32 → xM → Option (Int32 × xM)
  | 0, _, _, _, _, _ => none
  | n + 1, l0, l1, l2, l3, σ =>
    (gR σ l0 9 3).bind fun r1 =>
    (gI σ r1 8 2).bind fun v2 =>
    if v2 ≤ l3 then
    f215_87 l0 l1 σ
    else
    (cO σ l0 9).bind fun u10 =>
    (f190 l0 l3 σ).bind fun y3 =>
    if y3.1 = 0 then
    f215_81 (f215_29 n) l0 l1 l2 l3 y3.2
    else
    (gR y3.2 l0 9 22).bind fun r4 =>
    (aI y3.2 r4 l3).bind fun v5 =>
    if v5 = (-2) then
    f215_81 (f215_29 n) l0 l1 l2 l3 y3.2
    else
    (gR y3.2 l0 9 17).bind fun r6 =>
    (aI y3.2 r6 l3).bind fun v7 =>
    if l2 < v7 then
    (gR y3.2 l0 9 17).bind fun r8 =>
    (aI y3.2 r8 l3).bind fun v9 =>
    f215_81 (f215_29 n) l0 l3 v9 l3 y3.2
    else
    f215_81 (f215_29 n) l0 l1 l2 l3 y3.2
set_option maxRecDepth 20000 in
set_option maxHeartbeats 1000000 in
theorem e215_29 (d : Nat) : ∀ (n : Nat) (l0 : Nat) (l1 : Int32) (l2 : Int32) (l3 : Int32) (σ : xM) (y : Int32 × xM), f215_29 n l0 l1 l2 l3 σ = some y → Rn (d + 5) 215 29 [.ref l0, .int l1, .int l2, .int l3] [] σ (some (.int y.1), y.2) := by
  intro n
  induction n with
  | zero => intro l0 l1 l2 l3 σ y h; cases h
  | succ n ih =>
    intro l0 l1 l2 l3 σ y h
    unfold f215_29 at h
    refine rn_steps 2 31 [.ref l0, .int l1, .int l2, .int l3] [.ref l0, .int l3] rfl ?_
    obtain ⟨r1, hr1, h⟩ := Option.bind_eq_some_iff.mp h
    refine rn_gR (c := 9) (f := 3) rfl rfl ⟨⟨rfl, rfl⟩, rfl⟩ hr1 ?_
    refine rn_steps 0 34 [.ref l0, .int l1, .int l2, .int l3] [.ref r1, .int l3] rfl ?_
    obtain ⟨v2, hv2, h⟩ := Option.bind_eq_some_iff.mp h
    refine rn_gI (c := 8) (f := 2) rfl rfl ⟨⟨rfl, rfl⟩, Or.inl rfl⟩ hv2 ?_
    refine rn_steps 0 37 [.ref l0, .int l1, .int l2, .int l3] [.int v2, .int l3] rfl ?_
    refine rn_br (c := v2 ≤ l3) rfl rfl decide_eq_true_iff (fun hb => ?_) (fun hb => ?_)
    · rw [if_pos hb] at h
      refine rn_steps 0 87 [.ref l0, .int l1, .int l2, .int l3] [] rfl ?_
      exact e215_87 d _ _ _ _ _ _ h
    · rw [if_neg hb] at h
      refine rn_steps 2 42 [.ref l0, .int l1, .int l2, .int l3] [.int l3, .ref l0] rfl ?_
      obtain ⟨u10, hu10, h⟩ := Option.bind_eq_some_iff.mp h
      obtain ⟨y3, hy3, h⟩ := Option.bind_eq_some_iff.mp h
      refine rn_callV [.int l3] rfl rfl ⟨rfl, rfl⟩ hu10 rfl rfl (e190 (d + 3) hy3) ?_
      refine rn_steps 0 45 [.ref l0, .int l1, .int l2, .int l3] [.int y3.1] rfl ?_
      refine rn_br (c := y3.1 = 0) rfl rfl decide_eq_true_iff (fun hb => ?_) (fun hb => ?_)
      · rw [if_pos hb] at h
        refine rn_steps 0 81 [.ref l0, .int l1, .int l2, .int l3] [] rfl ?_
        exact e215_81 d _ ih _ _ _ _ _ _ h
      · rw [if_neg hb] at h
        refine rn_steps 1 49 [.ref l0, .int l1, .int l2, .int l3] [.ref l0] rfl ?_
        obtain ⟨r4, hr4, h⟩ := Option.bind_eq_some_iff.mp h
        refine rn_gR (c := 9) (f := 22) rfl rfl ⟨⟨rfl, rfl⟩, rfl⟩ hr4 ?_
        refine rn_steps 1 53 [.ref l0, .int l1, .int l2, .int l3] [.int l3, .ref r4] rfl ?_
        obtain ⟨v5, hv5, h⟩ := Option.bind_eq_some_iff.mp h
        refine rn_aI rfl hv5 ?_
        refine rn_steps 1 56 [.ref l0, .int l1, .int l2, .int l3] [.int (-2), .int v5] rfl ?_
        refine rn_br (c := v5 = (-2)) rfl rfl decide_eq_true_iff (fun hb => ?_) (fun hb => ?_)
        · rw [if_pos hb] at h
          refine rn_steps 0 81 [.ref l0, .int l1, .int l2, .int l3] [] rfl ?_
          exact e215_81 d _ ih _ _ _ _ _ _ h
        · rw [if_neg hb] at h
          refine rn_steps 1 60 [.ref l0, .int l1, .int l2, .int l3] [.ref l0] rfl ?_
          obtain ⟨r6, hr6, h⟩ := Option.bind_eq_some_iff.mp h
          refine rn_gR (c := 9) (f := 17) rfl rfl ⟨⟨rfl, rfl⟩, rfl⟩ hr6 ?_
          refine rn_steps 1 64 [.ref l0, .int l1, .int l2, .int l3] [.int l3, .ref r6] rfl ?_
          obtain ⟨v7, hv7, h⟩ := Option.bind_eq_some_iff.mp h
          refine rn_aI rfl hv7 ?_
          refine rn_steps 1 66 [.ref l0, .int l1, .int l2, .int l3] [.int l2, .int v7] rfl ?_
          refine rn_br (c := l2 < v7) rfl rfl decide_eq_true_iff (fun hb => ?_) (fun hb => ?_)
          · rw [if_pos hb] at h
            refine rn_steps 1 73 [.ref l0, .int l1, .int l2, .int l3] [.ref l0] rfl ?_
            obtain ⟨r8, hr8, h⟩ := Option.bind_eq_some_iff.mp h
            refine rn_gR (c := 9) (f := 17) rfl rfl ⟨⟨rfl, rfl⟩, rfl⟩ hr8 ?_
            refine rn_steps 1 77 [.ref l0, .int l1, .int l2, .int l3] [.int l3, .ref r8] rfl ?_
            obtain ⟨v9, hv9, h⟩ := Option.bind_eq_some_iff.mp h
            refine rn_aI rfl hv9 ?_
            refine rn_steps 3 81 [.ref l0, .int l3, .int v9, .int l3] [] rfl ?_
            exact e215_81 d _ ih _ _ _ _ _ _ h
          · rw [if_neg hb] at h
            refine rn_steps 1 81 [.ref l0, .int l1, .int l2, .int l3] [] rfl ?_
            exact e215_81 d _ ih _ _ _ _ _ _ h
/-- LastAskedModel.worthiest()I -/
noncomputable def f215 (l0 : Nat) (σ : xM) : Option (Int32 × xM) :=
  (pI σ l0 9 0 0).bind fun σ1 =>
  (gQ σ1 l0 9 3).bind fun q2 =>
  match q2 with
  | none =>
  (cO σ1 l0 9).bind fun u5 =>
  (f151 l0 1 σ1).bind fun y4 =>
  some (y4.1, y4.2)
  | some b3 =>
  (cO σ1 l0 9).bind fun u7 =>
  (f197 l0 σ1).bind fun y6 =>
  f215_29 1100 l0 (-2) 0 0 y6
set_option maxRecDepth 20000 in
set_option maxHeartbeats 1000000 in
theorem e215 (d : Nat) {l0 : Nat} {σ : xM} {y : Int32 × xM} (h : f215 l0 σ = some y) : Rn (d + 5) 215 0 [.ref l0, .retAddr 0, .retAddr 0, .retAddr 0] [] σ (some (.int y.1), y.2) := by
  unfold f215 at h
  refine rn_steps 2 2 [.ref l0, .retAddr 0, .retAddr 0, .retAddr 0] [.int 0, .ref l0] rfl ?_
  obtain ⟨σ1, hσ1, h⟩ := Option.bind_eq_some_iff.mp h
  refine rn_pI (c := 9) (f := 0) rfl rfl ⟨⟨rfl, rfl⟩, rfl⟩ hσ1 ?_
  refine rn_steps 1 6 [.ref l0, .retAddr 0, .retAddr 0, .retAddr 0] [.ref l0] rfl ?_
  obtain ⟨q2, hq2, h⟩ := Option.bind_eq_some_iff.mp h
  refine rn_gQ (c := 9) (f := 3) rfl rfl ⟨⟨rfl, rfl⟩, rfl⟩ hq2 ?_
  cases q2 with
  | none =>
    dsimp only at h
    refine rn_steps 3 14 [.ref l0, .retAddr 0, .retAddr 0, .retAddr 0] [.int 1, .ref l0] rfl ?_
    obtain ⟨u5, hu5, h⟩ := Option.bind_eq_some_iff.mp h
    obtain ⟨y4, hy4, h⟩ := Option.bind_eq_some_iff.mp h
    refine rn_callV [.int 1] rfl rfl ⟨rfl, rfl⟩ hu5 rfl rfl (e151 (d + 4) hy4) ?_
    refine rn_steps 0 17 [.ref l0, .retAddr 0, .retAddr 0, .retAddr 0] [.int y4.1] rfl ?_
    cases h
    exact rn_ret rfl rfl rfl
  | some b3 =>
    dsimp only at h
    refine rn_steps 2 19 [.ref l0, .retAddr 0, .retAddr 0, .retAddr 0] [.ref l0] rfl ?_
    obtain ⟨u7, hu7, h⟩ := Option.bind_eq_some_iff.mp h
    obtain ⟨y6, hy6, h⟩ := Option.bind_eq_some_iff.mp h
    refine rn_callV [] rfl rfl ⟨rfl, rfl⟩ hu7 rfl rfl (e197 d hy6) ?_
    refine rn_steps 6 29 [.ref l0, .int (-2), .int 0, .int 0] [] rfl ?_
    exact e215_29 d 1100 _ _ _ _ _ _ h
