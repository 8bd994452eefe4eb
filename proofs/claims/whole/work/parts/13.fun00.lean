/-- LastAsked$City.<init>()V -/
noncomputable def f0 (l0 : Nat) (σ : xM) : Option xM :=
  (pI σ l0 0 0 0).bind fun σ1 =>
  (pI σ1 l0 0 1 0).bind fun σ2 =>
  (pI σ2 l0 0 2 0).bind fun σ3 =>
  (pI σ3 l0 0 3 0).bind fun σ4 =>
  (pI σ4 l0 0 4 0).bind fun σ5 =>
  (pI σ5 l0 0 5 0).bind fun σ6 =>
  (pI σ6 l0 0 6 0).bind fun σ7 =>
  (nA σ7 11 6).bind fun σ8 =>
  (pR σ8 l0 0 7 (mN σ7)).bind fun σ9 =>
  (nA σ9 11 6).bind fun σ10 =>
  (pR σ10 l0 0 8 (mN σ9)).bind fun σ11 =>
  (nA σ11 11 6).bind fun σ12 =>
  (pR σ12 l0 0 9 (mN σ11)).bind fun σ13 =>
  (nA σ13 11 6).bind fun σ14 =>
  (pR σ14 l0 0 10 (mN σ13)).bind fun σ15 =>
  (nA σ15 11 6).bind fun σ16 =>
  (pR σ16 l0 0 11 (mN σ15)).bind fun σ17 =>
  (nA σ17 11 36).bind fun σ18 =>
  (pR σ18 l0 0 12 (mN σ17)).bind fun σ19 =>
  (nA σ19 11 36).bind fun σ20 =>
  (pR σ20 l0 0 13 (mN σ19)).bind fun σ21 =>
  (nA σ21 11 3).bind fun σ22 =>
  (pR σ22 l0 0 14 (mN σ21)).bind fun σ23 =>
  (nA σ23 11 3).bind fun σ24 =>
  (pR σ24 l0 0 15 (mN σ23)).bind fun σ25 =>
  (nA σ25 11 3).bind fun σ26 =>
  (pR σ26 l0 0 16 (mN σ25)).bind fun σ27 =>
  some σ27
set_option maxRecDepth 20000 in
set_option maxHeartbeats 1000000 in
theorem e0 (d : Nat) {l0 : Nat} {σ : xM} {y : xM} (h : f0 l0 σ = some y) : Rn (d + 1) 0 0 [.ref l0] [] σ (none, y) := by
  unfold f0 at h
  refine rn_steps 4 6 [.ref l0] [.int 0, .ref l0] rfl ?_
  obtain ⟨σ1, hσ1, h⟩ := Option.bind_eq_some_iff.mp h
  refine rn_pI (c := 0) (f := 0) rfl rfl ⟨⟨rfl, rfl⟩, rfl⟩ hσ1 ?_
  refine rn_steps 2 11 [.ref l0] [.int 0, .ref l0] rfl ?_
  obtain ⟨σ2, hσ2, h⟩ := Option.bind_eq_some_iff.mp h
  refine rn_pI (c := 0) (f := 1) rfl rfl ⟨⟨rfl, rfl⟩, rfl⟩ hσ2 ?_
  refine rn_steps 2 16 [.ref l0] [.int 0, .ref l0] rfl ?_
  obtain ⟨σ3, hσ3, h⟩ := Option.bind_eq_some_iff.mp h
  refine rn_pI (c := 0) (f := 2) rfl rfl ⟨⟨rfl, rfl⟩, rfl⟩ hσ3 ?_
  refine rn_steps 2 21 [.ref l0] [.int 0, .ref l0] rfl ?_
  obtain ⟨σ4, hσ4, h⟩ := Option.bind_eq_some_iff.mp h
  refine rn_pI (c := 0) (f := 3) rfl rfl ⟨⟨rfl, rfl⟩, rfl⟩ hσ4 ?_
  refine rn_steps 2 26 [.ref l0] [.int 0, .ref l0] rfl ?_
  obtain ⟨σ5, hσ5, h⟩ := Option.bind_eq_some_iff.mp h
  refine rn_pI (c := 0) (f := 4) rfl rfl ⟨⟨rfl, rfl⟩, rfl⟩ hσ5 ?_
  refine rn_steps 2 31 [.ref l0] [.int 0, .ref l0] rfl ?_
  obtain ⟨σ6, hσ6, h⟩ := Option.bind_eq_some_iff.mp h
  refine rn_pI (c := 0) (f := 5) rfl rfl ⟨⟨rfl, rfl⟩, rfl⟩ hσ6 ?_
  refine rn_steps 2 36 [.ref l0] [.int 0, .ref l0] rfl ?_
  obtain ⟨σ7, hσ7, h⟩ := Option.bind_eq_some_iff.mp h
  refine rn_pI (c := 0) (f := 6) rfl rfl ⟨⟨rfl, rfl⟩, rfl⟩ hσ7 ?_
  refine rn_steps 2 42 [.ref l0] [.int 6, .ref l0] rfl ?_
  obtain ⟨σ8, hσ8, h⟩ := Option.bind_eq_some_iff.mp h
  refine rn_nA rfl hσ8 ?_
  refine rn_steps 0 44 [.ref l0] [.ref (mN σ7), .ref l0] rfl ?_
  obtain ⟨σ9, hσ9, h⟩ := Option.bind_eq_some_iff.mp h
  refine rn_pR (c := 0) (f := 7) rfl rfl ⟨⟨rfl, rfl⟩, rfl⟩ hσ9 ?_
  refine rn_steps 2 50 [.ref l0] [.int 6, .ref l0] rfl ?_
  obtain ⟨σ10, hσ10, h⟩ := Option.bind_eq_some_iff.mp h
  refine rn_nA rfl hσ10 ?_
  refine rn_steps 0 52 [.ref l0] [.ref (mN σ9), .ref l0] rfl ?_
  obtain ⟨σ11, hσ11, h⟩ := Option.bind_eq_some_iff.mp h
  refine rn_pR (c := 0) (f := 8) rfl rfl ⟨⟨rfl, rfl⟩, rfl⟩ hσ11 ?_
  refine rn_steps 2 58 [.ref l0] [.int 6, .ref l0] rfl ?_
  obtain ⟨σ12, hσ12, h⟩ := Option.bind_eq_some_iff.mp h
  refine rn_nA rfl hσ12 ?_
  refine rn_steps 0 60 [.ref l0] [.ref (mN σ11), .ref l0] rfl ?_
  obtain ⟨σ13, hσ13, h⟩ := Option.bind_eq_some_iff.mp h
  refine rn_pR (c := 0) (f := 9) rfl rfl ⟨⟨rfl, rfl⟩, rfl⟩ hσ13 ?_
  refine rn_steps 2 66 [.ref l0] [.int 6, .ref l0] rfl ?_
  obtain ⟨σ14, hσ14, h⟩ := Option.bind_eq_some_iff.mp h
  refine rn_nA rfl hσ14 ?_
  refine rn_steps 0 68 [.ref l0] [.ref (mN σ13), .ref l0] rfl ?_
  obtain ⟨σ15, hσ15, h⟩ := Option.bind_eq_some_iff.mp h
  refine rn_pR (c := 0) (f := 10) rfl rfl ⟨⟨rfl, rfl⟩, rfl⟩ hσ15 ?_
  refine rn_steps 2 74 [.ref l0] [.int 6, .ref l0] rfl ?_
  obtain ⟨σ16, hσ16, h⟩ := Option.bind_eq_some_iff.mp h
  refine rn_nA rfl hσ16 ?_
  refine rn_steps 0 76 [.ref l0] [.ref (mN σ15), .ref l0] rfl ?_
  obtain ⟨σ17, hσ17, h⟩ := Option.bind_eq_some_iff.mp h
  refine rn_pR (c := 0) (f := 11) rfl rfl ⟨⟨rfl, rfl⟩, rfl⟩ hσ17 ?_
  refine rn_steps 2 82 [.ref l0] [.int 36, .ref l0] rfl ?_
  obtain ⟨σ18, hσ18, h⟩ := Option.bind_eq_some_iff.mp h
  refine rn_nA rfl hσ18 ?_
  refine rn_steps 0 84 [.ref l0] [.ref (mN σ17), .ref l0] rfl ?_
  obtain ⟨σ19, hσ19, h⟩ := Option.bind_eq_some_iff.mp h
  refine rn_pR (c := 0) (f := 12) rfl rfl ⟨⟨rfl, rfl⟩, rfl⟩ hσ19 ?_
  refine rn_steps 2 90 [.ref l0] [.int 36, .ref l0] rfl ?_
  obtain ⟨σ20, hσ20, h⟩ := Option.bind_eq_some_iff.mp h
  refine rn_nA rfl hσ20 ?_
  refine rn_steps 0 92 [.ref l0] [.ref (mN σ19), .ref l0] rfl ?_
  obtain ⟨σ21, hσ21, h⟩ := Option.bind_eq_some_iff.mp h
  refine rn_pR (c := 0) (f := 13) rfl rfl ⟨⟨rfl, rfl⟩, rfl⟩ hσ21 ?_
  refine rn_steps 2 97 [.ref l0] [.int 3, .ref l0] rfl ?_
  obtain ⟨σ22, hσ22, h⟩ := Option.bind_eq_some_iff.mp h
  refine rn_nA rfl hσ22 ?_
  refine rn_steps 0 99 [.ref l0] [.ref (mN σ21), .ref l0] rfl ?_
  obtain ⟨σ23, hσ23, h⟩ := Option.bind_eq_some_iff.mp h
  refine rn_pR (c := 0) (f := 14) rfl rfl ⟨⟨rfl, rfl⟩, rfl⟩ hσ23 ?_
  refine rn_steps 2 104 [.ref l0] [.int 3, .ref l0] rfl ?_
  obtain ⟨σ24, hσ24, h⟩ := Option.bind_eq_some_iff.mp h
  refine rn_nA rfl hσ24 ?_
  refine rn_steps 0 106 [.ref l0] [.ref (mN σ23), .ref l0] rfl ?_
  obtain ⟨σ25, hσ25, h⟩ := Option.bind_eq_some_iff.mp h
  refine rn_pR (c := 0) (f := 15) rfl rfl ⟨⟨rfl, rfl⟩, rfl⟩ hσ25 ?_
  refine rn_steps 2 111 [.ref l0] [.int 3, .ref l0] rfl ?_
  obtain ⟨σ26, hσ26, h⟩ := Option.bind_eq_some_iff.mp h
  refine rn_nA rfl hσ26 ?_
  refine rn_steps 0 113 [.ref l0] [.ref (mN σ25), .ref l0] rfl ?_
  obtain ⟨σ27, hσ27, h⟩ := Option.bind_eq_some_iff.mp h
  refine rn_pR (c := 0) (f := 16) rfl rfl ⟨⟨rfl, rfl⟩, rfl⟩ hσ27 ?_
  refine rn_steps 0 116 [.ref l0] [] rfl ?_
  cases h
  exact rn_ret rfl rfl rfl
noncomputable def f1_86 (σ : xM) : Option xM :=
  some σ
set_option maxRecDepth 20000 in
set_option maxHeartbeats 1000000 in
theorem e1_86 (d : Nat) (x0 x1 : Value) (σ : xM) (y : xM) (h : f1_86 σ = some y) : Rn (d + 0) 1 86 [x0, x1] [] σ (none, y) := by
  unfold f1_86 at h
  cases h
  exact rn_ret rfl rfl rfl
noncomputable def f1_66 : Nat → Nat → Int32 → xM → Option xM
  | 0, _, _, _ => none
  | n + 1, l0, l1, σ =>
    if 36 ≤ l1 then
    f1_86 σ
    else
    (gR σ l0 0 12).bind fun r1 =>
    (tI σ r1 l1 (-2)).bind fun σ2 =>
    (f1_66 n) l0 (l1 + 1) σ2
set_option maxRecDepth 20000 in
set_option maxHeartbeats 1000000 in
theorem e1_66 (d : Nat) : ∀ (n : Nat) (l0 : Nat) (l1 : Int32) (σ : xM) (y : xM), f1_66 n l0 l1 σ = some y → Rn (d + 0) 1 66 [.ref l0, .int l1] [] σ (none, y) := by
  intro n
  induction n with
  | zero => intro l0 l1 σ y h; cases h
  | succ n ih =>
    intro l0 l1 σ y h
    unfold f1_66 at h
    refine rn_steps 2 69 [.ref l0, .int l1] [.int 36, .int l1] rfl ?_
    refine rn_br (c := 36 ≤ l1) rfl rfl decide_eq_true_iff (fun hb => ?_) (fun hb => ?_)
    · rw [if_pos hb] at h
      refine rn_steps 0 86 [.ref l0, .int l1] [] rfl ?_
      exact e1_86 d _ _ _ _ h
    · rw [if_neg hb] at h
      refine rn_steps 1 73 [.ref l0, .int l1] [.ref l0] rfl ?_
      obtain ⟨r1, hr1, h⟩ := Option.bind_eq_some_iff.mp h
      refine rn_gR (c := 0) (f := 12) rfl rfl ⟨⟨rfl, rfl⟩, rfl⟩ hr1 ?_
      refine rn_steps 2 79 [.ref l0, .int l1] [.int (-2), .int l1, .ref r1] rfl ?_
      obtain ⟨σ2, hσ2, h⟩ := Option.bind_eq_some_iff.mp h
      refine rn_tI rfl hσ2 ?_
      refine rn_steps 2 66 [.ref l0, .int (l1 + 1)] [] rfl ?_
      exact ih _ _ _ _ h
noncomputable def f1_64 (l0 : Nat) (σ : xM) : Option xM :=
  f1_66 1100 l0 0 σ
set_option maxRecDepth 20000 in
set_option maxHeartbeats 1000000 in
theorem e1_64 (d : Nat) (l0 : Nat) (x1 : Value) (σ : xM) (y : xM) (h : f1_64 l0 σ = some y) : Rn (d + 0) 1 64 [.ref l0, x1] [] σ (none, y) := by
  unfold f1_64 at h
  refine rn_steps 2 66 [.ref l0, .int 0] [] rfl ?_
  exact e1_66 d 1100 _ _ _ _ h
noncomputable def f1_37 : Nat → Nat → Int32 → xM → Option xM
  | 0, _, _, _ => none
  | n + 1, l0, l1, σ =>
    if 6 ≤ l1 then
    f1_64 l0 σ
    else
    (gR σ l0 0 10).bind fun r1 =>
    (tI σ r1 l1 0).bind fun σ2 =>
    (gR σ2 l0 0 11).bind fun r3 =>
    (tI σ2 r3 l1 (-3)).bind fun σ4 =>
    (f1_37 n) l0 (l1 + 1) σ4
set_option maxRecDepth 20000 in
set_option maxHeartbeats 1000000 in
theorem e1_37 (d : Nat) : ∀ (n : Nat) (l0 : Nat) (l1 : Int32) (σ : xM) (y : xM), f1_37 n l0 l1 σ = some y → Rn (d + 0) 1 37 [.ref l0, .int l1] [] σ (none, y) := by
  intro n
  induction n with
  | zero => intro l0 l1 σ y h; cases h
  | succ n ih =>
    intro l0 l1 σ y h
    unfold f1_37 at h
    refine rn_steps 2 40 [.ref l0, .int l1] [.int 6, .int l1] rfl ?_
    refine rn_br (c := 6 ≤ l1) rfl rfl decide_eq_true_iff (fun hb => ?_) (fun hb => ?_)
    · rw [if_pos hb] at h
      refine rn_steps 0 64 [.ref l0, .int l1] [] rfl ?_
      exact e1_64 d _ _ _ _ h
    · rw [if_neg hb] at h
      refine rn_steps 1 44 [.ref l0, .int l1] [.ref l0] rfl ?_
      obtain ⟨r1, hr1, h⟩ := Option.bind_eq_some_iff.mp h
      refine rn_gR (c := 0) (f := 10) rfl rfl ⟨⟨rfl, rfl⟩, rfl⟩ hr1 ?_
      refine rn_steps 2 49 [.ref l0, .int l1] [.int 0, .int l1, .ref r1] rfl ?_
      obtain ⟨σ2, hσ2, h⟩ := Option.bind_eq_some_iff.mp h
      refine rn_tI rfl hσ2 ?_
      refine rn_steps 1 51 [.ref l0, .int l1] [.ref l0] rfl ?_
      obtain ⟨r3, hr3, h⟩ := Option.bind_eq_some_iff.mp h
      refine rn_gR (c := 0) (f := 11) rfl rfl ⟨⟨rfl, rfl⟩, rfl⟩ hr3 ?_
      refine rn_steps 2 57 [.ref l0, .int l1] [.int (-3), .int l1, .ref r3] rfl ?_
      obtain ⟨σ4, hσ4, h⟩ := Option.bind_eq_some_iff.mp h
      refine rn_tI rfl hσ4 ?_
      refine rn_steps 2 37 [.ref l0, .int (l1 + 1)] [] rfl ?_
      exact ih _ _ _ _ h
/-- LastAsked$City.clear()V -/
noncomputable def f1 (l0 : Nat) (σ : xM) : Option xM :=
  (pI σ l0 0 0 0).bind fun σ1 =>
  (pI σ1 l0 0 1 0).bind fun σ2 =>
  (pI σ2 l0 0 2 0).bind fun σ3 =>
  (pI σ3 l0 0 3 0).bind fun σ4 =>
  (pI σ4 l0 0 4 0).bind fun σ5 =>
  (pI σ5 l0 0 5 0).bind fun σ6 =>
  (pI σ6 l0 0 6 0).bind fun σ7 =>
  f1_37 1100 l0 0 σ7
set_option maxRecDepth 20000 in
set_option maxHeartbeats 1000000 in
theorem e1 (d : Nat) {l0 : Nat} {σ : xM} {y : xM} (h : f1 l0 σ = some y) : Rn (d + 0) 1 0 [.ref l0, .retAddr 0] [] σ (none, y) := by
  unfold f1 at h
  refine rn_steps 2 2 [.ref l0, .retAddr 0] [.int 0, .ref l0] rfl ?_
  obtain ⟨σ1, hσ1, h⟩ := Option.bind_eq_some_iff.mp h
  refine rn_pI (c := 0) (f := 0) rfl rfl ⟨⟨rfl, rfl⟩, rfl⟩ hσ1 ?_
  refine rn_steps 2 7 [.ref l0, .retAddr 0] [.int 0, .ref l0] rfl ?_
  obtain ⟨σ2, hσ2, h⟩ := Option.bind_eq_some_iff.mp h
  refine rn_pI (c := 0) (f := 1) rfl rfl ⟨⟨rfl, rfl⟩, rfl⟩ hσ2 ?_
  refine rn_steps 2 12 [.ref l0, .retAddr 0] [.int 0, .ref l0] rfl ?_
  obtain ⟨σ3, hσ3, h⟩ := Option.bind_eq_some_iff.mp h
  refine rn_pI (c := 0) (f := 2) rfl rfl ⟨⟨rfl, rfl⟩, rfl⟩ hσ3 ?_
  refine rn_steps 2 17 [.ref l0, .retAddr 0] [.int 0, .ref l0] rfl ?_
  obtain ⟨σ4, hσ4, h⟩ := Option.bind_eq_some_iff.mp h
  refine rn_pI (c := 0) (f := 3) rfl rfl ⟨⟨rfl, rfl⟩, rfl⟩ hσ4 ?_
  refine rn_steps 2 22 [.ref l0, .retAddr 0] [.int 0, .ref l0] rfl ?_
  obtain ⟨σ5, hσ5, h⟩ := Option.bind_eq_some_iff.mp h
  refine rn_pI (c := 0) (f := 4) rfl rfl ⟨⟨rfl, rfl⟩, rfl⟩ hσ5 ?_
  refine rn_steps 2 27 [.ref l0, .retAddr 0] [.int 0, .ref l0] rfl ?_
  obtain ⟨σ6, hσ6, h⟩ := Option.bind_eq_some_iff.mp h
  refine rn_pI (c := 0) (f := 5) rfl rfl ⟨⟨rfl, rfl⟩, rfl⟩ hσ6 ?_
  refine rn_steps 2 32 [.ref l0, .retAddr 0] [.int 0, .ref l0] rfl ?_
  obtain ⟨σ7, hσ7, h⟩ := Option.bind_eq_some_iff.mp h
  refine rn_pI (c := 0) (f := 6) rfl rfl ⟨⟨rfl, rfl⟩, rfl⟩ hσ7 ?_
  refine rn_steps 2 37 [.ref l0, .int 0] [] rfl ?_
  exact e1_37 d 1100 _ _ _ _ h
/-- LastAsked$City.copy(LLastAsked$City;)V -/
noncomputable def f2 (l0 : Nat) (l1 : Nat) (σ : xM) : Option xM :=
  (gI σ l1 0 0).bind fun v1 =>
  (pI σ l0 0 0 v1).bind fun σ2 =>
  (gI σ2 l1 0 1).bind fun v3 =>
  (pI σ2 l0 0 1 v3).bind fun σ4 =>
  (gI σ4 l1 0 2).bind fun v5 =>
  (pI σ4 l0 0 2 v5).bind fun σ6 =>
  (gI σ6 l1 0 3).bind fun v7 =>
  (pI σ6 l0 0 3 v7).bind fun σ8 =>
  (gI σ8 l1 0 4).bind fun v9 =>
  (pI σ8 l0 0 4 v9).bind fun σ10 =>
  (gI σ10 l1 0 5).bind fun v11 =>
  (pI σ10 l0 0 5 v11).bind fun σ12 =>
  (gI σ12 l1 0 6).bind fun v13 =>
  (pI σ12 l0 0 6 v13).bind fun σ14 =>
  (gR σ14 l1 0 7).bind fun r15 =>
  (gR σ14 l0 0 7).bind fun r16 =>
  (cp σ14 r15 0 r16 0 6).bind fun σ17 =>
  (gR σ17 l1 0 8).bind fun r18 =>
  (gR σ17 l0 0 8).bind fun r19 =>
  (cp σ17 r18 0 r19 0 6).bind fun σ20 =>
  (gR σ20 l1 0 9).bind fun r21 =>
  (gR σ20 l0 0 9).bind fun r22 =>
  (cp σ20 r21 0 r22 0 6).bind fun σ23 =>
  (gR σ23 l1 0 10).bind fun r24 =>
  (gR σ23 l0 0 10).bind fun r25 =>
  (cp σ23 r24 0 r25 0 6).bind fun σ26 =>
  (gR σ26 l1 0 11).bind fun r27 =>
  (gR σ26 l0 0 11).bind fun r28 =>
  (cp σ26 r27 0 r28 0 6).bind fun σ29 =>
  (gR σ29 l1 0 12).bind fun r30 =>
  (gR σ29 l0 0 12).bind fun r31 =>
  (cp σ29 r30 0 r31 0 36).bind fun σ32 =>
  (gR σ32 l1 0 13).bind fun r33 =>
  (gR σ32 l0 0 13).bind fun r34 =>
  (cp σ32 r33 0 r34 0 36).bind fun σ35 =>
  (gR σ35 l1 0 14).bind fun r36 =>
  (gR σ35 l0 0 14).bind fun r37 =>
  (cp σ35 r36 0 r37 0 3).bind fun σ38 =>
  (gR σ38 l1 0 15).bind fun r39 =>
  (gR σ38 l0 0 15).bind fun r40 =>
  (cp σ38 r39 0 r40 0 3).bind fun σ41 =>
  (gR σ41 l1 0 16).bind fun r42 =>
  (gR σ41 l0 0 16).bind fun r43 =>
  (cp σ41 r42 0 r43 0 3).bind fun σ44 =>
  some σ44
set_option maxRecDepth 20000 in
set_option maxHeartbeats 1000000 in
theorem e2 (d : Nat) {l0 : Nat} {l1 : Nat} {σ : xM} {y : xM} (h : f2 l0 l1 σ = some y) : Rn (d + 1) 2 0 [.ref l0, .ref l1] [] σ (none, y) := by
  unfold f2 at h
  refine rn_steps 2 2 [.ref l0, .ref l1] [.ref l1, .ref l0] rfl ?_
  obtain ⟨v1, hv1, h⟩ := Option.bind_eq_some_iff.mp h
  refine rn_gI (c := 0) (f := 0) rfl rfl ⟨⟨rfl, rfl⟩, Or.inl rfl⟩ hv1 ?_
  refine rn_steps 0 5 [.ref l0, .ref l1] [.int v1, .ref l0] rfl ?_
  obtain ⟨σ2, hσ2, h⟩ := Option.bind_eq_some_iff.mp h
  refine rn_pI (c := 0) (f := 0) rfl rfl ⟨⟨rfl, rfl⟩, rfl⟩ hσ2 ?_
  refine rn_steps 2 10 [.ref l0, .ref l1] [.ref l1, .ref l0] rfl ?_
  obtain ⟨v3, hv3, h⟩ := Option.bind_eq_some_iff.mp h
  refine rn_gI (c := 0) (f := 1) rfl rfl ⟨⟨rfl, rfl⟩, Or.inl rfl⟩ hv3 ?_
  refine rn_steps 0 13 [.ref l0, .ref l1] [.int v3, .ref l0] rfl ?_
  obtain ⟨σ4, hσ4, h⟩ := Option.bind_eq_some_iff.mp h
  refine rn_pI (c := 0) (f := 1) rfl rfl ⟨⟨rfl, rfl⟩, rfl⟩ hσ4 ?_
  refine rn_steps 2 18 [.ref l0, .ref l1] [.ref l1, .ref l0] rfl ?_
  obtain ⟨v5, hv5, h⟩ := Option.bind_eq_some_iff.mp h
  refine rn_gI (c := 0) (f := 2) rfl rfl ⟨⟨rfl, rfl⟩, Or.inl rfl⟩ hv5 ?_
  refine rn_steps 0 21 [.ref l0, .ref l1] [.int v5, .ref l0] rfl ?_
  obtain ⟨σ6, hσ6, h⟩ := Option.bind_eq_some_iff.mp h
  refine rn_pI (c := 0) (f := 2) rfl rfl ⟨⟨rfl, rfl⟩, rfl⟩ hσ6 ?_
  refine rn_steps 2 26 [.ref l0, .ref l1] [.ref l1, .ref l0] rfl ?_
  obtain ⟨v7, hv7, h⟩ := Option.bind_eq_some_iff.mp h
  refine rn_gI (c := 0) (f := 3) rfl rfl ⟨⟨rfl, rfl⟩, Or.inl rfl⟩ hv7 ?_
  refine rn_steps 0 29 [.ref l0, .ref l1] [.int v7, .ref l0] rfl ?_
  obtain ⟨σ8, hσ8, h⟩ := Option.bind_eq_some_iff.mp h
  refine rn_pI (c := 0) (f := 3) rfl rfl ⟨⟨rfl, rfl⟩, rfl⟩ hσ8 ?_
  refine rn_steps 2 34 [.ref l0, .ref l1] [.ref l1, .ref l0] rfl ?_
  obtain ⟨v9, hv9, h⟩ := Option.bind_eq_some_iff.mp h
  refine rn_gI (c := 0) (f := 4) rfl rfl ⟨⟨rfl, rfl⟩, Or.inl rfl⟩ hv9 ?_
  refine rn_steps 0 37 [.ref l0, .ref l1] [.int v9, .ref l0] rfl ?_
  obtain ⟨σ10, hσ10, h⟩ := Option.bind_eq_some_iff.mp h
  refine rn_pI (c := 0) (f := 4) rfl rfl ⟨⟨rfl, rfl⟩, rfl⟩ hσ10 ?_
  refine rn_steps 2 42 [.ref l0, .ref l1] [.ref l1, .ref l0] rfl ?_
  obtain ⟨v11, hv11, h⟩ := Option.bind_eq_some_iff.mp h
  refine rn_gI (c := 0) (f := 5) rfl rfl ⟨⟨rfl, rfl⟩, Or.inl rfl⟩ hv11 ?_
  refine rn_steps 0 45 [.ref l0, .ref l1] [.int v11, .ref l0] rfl ?_
  obtain ⟨σ12, hσ12, h⟩ := Option.bind_eq_some_iff.mp h
  refine rn_pI (c := 0) (f := 5) rfl rfl ⟨⟨rfl, rfl⟩, rfl⟩ hσ12 ?_
  refine rn_steps 2 50 [.ref l0, .ref l1] [.ref l1, .ref l0] rfl ?_
  obtain ⟨v13, hv13, h⟩ := Option.bind_eq_some_iff.mp h
  refine rn_gI (c := 0) (f := 6) rfl rfl ⟨⟨rfl, rfl⟩, Or.inl rfl⟩ hv13 ?_
  refine rn_steps 0 53 [.ref l0, .ref l1] [.int v13, .ref l0] rfl ?_
  obtain ⟨σ14, hσ14, h⟩ := Option.bind_eq_some_iff.mp h
  refine rn_pI (c := 0) (f := 6) rfl rfl ⟨⟨rfl, rfl⟩, rfl⟩ hσ14 ?_
  refine rn_steps 1 57 [.ref l0, .ref l1] [.ref l1] rfl ?_
  obtain ⟨r15, hr15, h⟩ := Option.bind_eq_some_iff.mp h
  refine rn_gR (c := 0) (f := 7) rfl rfl ⟨⟨rfl, rfl⟩, rfl⟩ hr15 ?_
  refine rn_steps 2 62 [.ref l0, .ref l1] [.ref l0, .int 0, .ref r15] rfl ?_
  obtain ⟨r16, hr16, h⟩ := Option.bind_eq_some_iff.mp h
  refine rn_gR (c := 0) (f := 7) rfl rfl ⟨⟨rfl, rfl⟩, rfl⟩ hr16 ?_
  refine rn_steps 2 68 [.ref l0, .ref l1] [.int 6, .int 0, .ref r16, .int 0, .ref r15] rfl ?_
  obtain ⟨σ17, hσ17, h⟩ := Option.bind_eq_some_iff.mp h
  refine rn_cp rfl rfl hσ17 ?_
  refine rn_steps 1 72 [.ref l0, .ref l1] [.ref l1] rfl ?_
  obtain ⟨r18, hr18, h⟩ := Option.bind_eq_some_iff.mp h
  refine rn_gR (c := 0) (f := 8) rfl rfl ⟨⟨rfl, rfl⟩, rfl⟩ hr18 ?_
  refine rn_steps 2 77 [.ref l0, .ref l1] [.ref l0, .int 0, .ref r18] rfl ?_
  obtain ⟨r19, hr19, h⟩ := Option.bind_eq_some_iff.mp h
  refine rn_gR (c := 0) (f := 8) rfl rfl ⟨⟨rfl, rfl⟩, rfl⟩ hr19 ?_
  refine rn_steps 2 83 [.ref l0, .ref l1] [.int 6, .int 0, .ref r19, .int 0, .ref r18] rfl ?_
  obtain ⟨σ20, hσ20, h⟩ := Option.bind_eq_some_iff.mp h
  refine rn_cp rfl rfl hσ20 ?_
  refine rn_steps 1 87 [.ref l0, .ref l1] [.ref l1] rfl ?_
  obtain ⟨r21, hr21, h⟩ := Option.bind_eq_some_iff.mp h
  refine rn_gR (c := 0) (f := 9) rfl rfl ⟨⟨rfl, rfl⟩, rfl⟩ hr21 ?_
  refine rn_steps 2 92 [.ref l0, .ref l1] [.ref l0, .int 0, .ref r21] rfl ?_
  obtain ⟨r22, hr22, h⟩ := Option.bind_eq_some_iff.mp h
  refine rn_gR (c := 0) (f := 9) rfl rfl ⟨⟨rfl, rfl⟩, rfl⟩ hr22 ?_
  refine rn_steps 2 98 [.ref l0, .ref l1] [.int 6, .int 0, .ref r22, .int 0, .ref r21] rfl ?_
  obtain ⟨σ23, hσ23, h⟩ := Option.bind_eq_some_iff.mp h
  refine rn_cp rfl rfl hσ23 ?_
  refine rn_steps 1 102 [.ref l0, .ref l1] [.ref l1] rfl ?_
  obtain ⟨r24, hr24, h⟩ := Option.bind_eq_some_iff.mp h
  refine rn_gR (c := 0) (f := 10) rfl rfl ⟨⟨rfl, rfl⟩, rfl⟩ hr24 ?_
  refine rn_steps 2 107 [.ref l0, .ref l1] [.ref l0, .int 0, .ref r24] rfl ?_
  obtain ⟨r25, hr25, h⟩ := Option.bind_eq_some_iff.mp h
  refine rn_gR (c := 0) (f := 10) rfl rfl ⟨⟨rfl, rfl⟩, rfl⟩ hr25 ?_
  refine rn_steps 2 113 [.ref l0, .ref l1] [.int 6, .int 0, .ref r25, .int 0, .ref r24] rfl ?_
  obtain ⟨σ26, hσ26, h⟩ := Option.bind_eq_some_iff.mp h
  refine rn_cp rfl rfl hσ26 ?_
  refine rn_steps 1 117 [.ref l0, .ref l1] [.ref l1] rfl ?_
  obtain ⟨r27, hr27, h⟩ := Option.bind_eq_some_iff.mp h
  refine rn_gR (c := 0) (f := 11) rfl rfl ⟨⟨rfl, rfl⟩, rfl⟩ hr27 ?_
  refine rn_steps 2 122 [.ref l0, .ref l1] [.ref l0, .int 0, .ref r27] rfl ?_
  obtain ⟨r28, hr28, h⟩ := Option.bind_eq_some_iff.mp h
  refine rn_gR (c := 0) (f := 11) rfl rfl ⟨⟨rfl, rfl⟩, rfl⟩ hr28 ?_
  refine rn_steps 2 128 [.ref l0, .ref l1] [.int 6, .int 0, .ref r28, .int 0, .ref r27] rfl ?_
  obtain ⟨σ29, hσ29, h⟩ := Option.bind_eq_some_iff.mp h
  refine rn_cp rfl rfl hσ29 ?_
  refine rn_steps 1 132 [.ref l0, .ref l1] [.ref l1] rfl ?_
  obtain ⟨r30, hr30, h⟩ := Option.bind_eq_some_iff.mp h
  refine rn_gR (c := 0) (f := 12) rfl rfl ⟨⟨rfl, rfl⟩, rfl⟩ hr30 ?_
  refine rn_steps 2 137 [.ref l0, .ref l1] [.ref l0, .int 0, .ref r30] rfl ?_
  obtain ⟨r31, hr31, h⟩ := Option.bind_eq_some_iff.mp h
  refine rn_gR (c := 0) (f := 12) rfl rfl ⟨⟨rfl, rfl⟩, rfl⟩ hr31 ?_
  refine rn_steps 2 143 [.ref l0, .ref l1] [.int 36, .int 0, .ref r31, .int 0, .ref r30] rfl ?_
  obtain ⟨σ32, hσ32, h⟩ := Option.bind_eq_some_iff.mp h
  refine rn_cp rfl rfl hσ32 ?_
  refine rn_steps 1 147 [.ref l0, .ref l1] [.ref l1] rfl ?_
  obtain ⟨r33, hr33, h⟩ := Option.bind_eq_some_iff.mp h
  refine rn_gR (c := 0) (f := 13) rfl rfl ⟨⟨rfl, rfl⟩, rfl⟩ hr33 ?_
  refine rn_steps 2 152 [.ref l0, .ref l1] [.ref l0, .int 0, .ref r33] rfl ?_
  obtain ⟨r34, hr34, h⟩ := Option.bind_eq_some_iff.mp h
  refine rn_gR (c := 0) (f := 13) rfl rfl ⟨⟨rfl, rfl⟩, rfl⟩ hr34 ?_
  refine rn_steps 2 158 [.ref l0, .ref l1] [.int 36, .int 0, .ref r34, .int 0, .ref r33] rfl ?_
  obtain ⟨σ35, hσ35, h⟩ := Option.bind_eq_some_iff.mp h
  refine rn_cp rfl rfl hσ35 ?_
  refine rn_steps 1 162 [.ref l0, .ref l1] [.ref l1] rfl ?_
  obtain ⟨r36, hr36, h⟩ := Option.bind_eq_some_iff.mp h
  refine rn_gR (c := 0) (f := 14) rfl rfl ⟨⟨rfl, rfl⟩, rfl⟩ hr36 ?_
  refine rn_steps 2 167 [.ref l0, .ref l1] [.ref l0, .int 0, .ref r36] rfl ?_
  obtain ⟨r37, hr37, h⟩ := Option.bind_eq_some_iff.mp h
  refine rn_gR (c := 0) (f := 14) rfl rfl ⟨⟨rfl, rfl⟩, rfl⟩ hr37 ?_
  refine rn_steps 2 172 [.ref l0, .ref l1] [.int 3, .int 0, .ref r37, .int 0, .ref r36] rfl ?_
  obtain ⟨σ38, hσ38, h⟩ := Option.bind_eq_some_iff.mp h
  refine rn_cp rfl rfl hσ38 ?_
  refine rn_steps 1 176 [.ref l0, .ref l1] [.ref l1] rfl ?_
  obtain ⟨r39, hr39, h⟩ := Option.bind_eq_some_iff.mp h
  refine rn_gR (c := 0) (f := 15) rfl rfl ⟨⟨rfl, rfl⟩, rfl⟩ hr39 ?_
  refine rn_steps 2 181 [.ref l0, .ref l1] [.ref l0, .int 0, .ref r39] rfl ?_
  obtain ⟨r40, hr40, h⟩ := Option.bind_eq_some_iff.mp h
  refine rn_gR (c := 0) (f := 15) rfl rfl ⟨⟨rfl, rfl⟩, rfl⟩ hr40 ?_
  refine rn_steps 2 186 [.ref l0, .ref l1] [.int 3, .int 0, .ref r40, .int 0, .ref r39] rfl ?_
  obtain ⟨σ41, hσ41, h⟩ := Option.bind_eq_some_iff.mp h
  refine rn_cp rfl rfl hσ41 ?_
  refine rn_steps 1 190 [.ref l0, .ref l1] [.ref l1] rfl ?_
  obtain ⟨r42, hr42, h⟩ := Option.bind_eq_some_iff.mp h
  refine rn_gR (c := 0) (f := 16) rfl rfl ⟨⟨rfl, rfl⟩, rfl⟩ hr42 ?_
  refine rn_steps 2 195 [.ref l0, .ref l1] [.ref l0, .int 0, .ref r42] rfl ?_
  obtain ⟨r43, hr43, h⟩ := Option.bind_eq_some_iff.mp h
  refine rn_gR (c := 0) (f := 16) rfl rfl ⟨⟨rfl, rfl⟩, rfl⟩ hr43 ?_
  refine rn_steps 2 200 [.ref l0, .ref l1] [.int 3, .int 0, .ref r43, .int 0, .ref r42] rfl ?_
  obtain ⟨σ44, hσ44, h⟩ := Option.bind_eq_some_iff.mp h
  refine rn_cp rfl rfl hσ44 ?_
  refine rn_steps 0 203 [.ref l0, .ref l1] [] rfl ?_
  cases h
  exact rn_ret rfl rfl rfl
/-- LastAsked$City.everybody()I -/
noncomputable def f3 (l0 : Nat) (σ : xM) : Option (Int32 × xM) :=
  (gI σ l0 0 2).bind fun v1 =>
  some (((1 <<< (v1 &&& 31)) - 1), σ)
set_option maxRecDepth 20000 in
set_option maxHeartbeats 1000000 in
theorem e3 (d : Nat) {l0 : Nat} {σ : xM} {y : Int32 × xM} (h : f3 l0 σ = some y) : Rn (d + 0) 3 0 [.ref l0] [] σ (some (.int y.1), y.2) := by
  unfold f3 at h
  refine rn_steps 2 2 [.ref l0] [.ref l0, .int 1] rfl ?_
  obtain ⟨v1, hv1, h⟩ := Option.bind_eq_some_iff.mp h
  refine rn_gI (c := 0) (f := 2) rfl rfl ⟨⟨rfl, rfl⟩, Or.inl rfl⟩ hv1 ?_
  refine rn_steps 3 8 [.ref l0] [.int ((1 <<< (v1 &&& 31)) - 1)] rfl ?_
  cases h
  exact rn_ret rfl rfl rfl
noncomputable def f124_24 (s0 : Int32) (σ : xM) : Option (Int32 × xM) :=
  rZ s0 σ
set_option maxRecDepth 20000 in
set_option maxHeartbeats 1000000 in
theorem e124_24 (d : Nat) (s0 : Int32) (x0 x1 : Value) (σ : xM) (y : Int32 × xM) (h : f124_24 s0 σ = some y) : Rn (d + 0) 124 24 [x0, x1] [.int s0] σ (some (.int y.1), y.2) := by
  unfold f124_24 at h
  exact rn_retZ rfl rfl h
noncomputable def f124_23 (σ : xM) : Option (Int32 × xM) :=
  f124_24 0 σ
set_option maxRecDepth 20000 in
set_option maxHeartbeats 1000000 in
theorem e124_23 (d : Nat) (x0 x1 : Value) (σ : xM) (y : Int32 × xM) (h : f124_23 σ = some y) : Rn (d + 0) 124 23 [x0, x1] [] σ (some (.int y.1), y.2) := by
  unfold f124_23 at h
  refine rn_steps 1 24 [x0, x1] [.int 0] rfl ?_
  exact e124_24 d _ _ _ _ _ h
/-- LastAsked.in(II)Z -/
noncomputable def f124 (l0 : Int32) (l1 : Int32) (σ : xM) : Option (Int32 × xM) :=
  if l1 < 0 then
  f124_23 σ
  else
  if 6 ≤ l1 then
  f124_23 σ
  else
  if ((l0 >>> (l1 &&& 31)) &&& 1) = 1 then
  f124_24 1 σ
  else
  f124_23 σ
set_option maxRecDepth 20000 in
set_option maxHeartbeats 1000000 in
theorem e124 (d : Nat) {l0 : Int32} {l1 : Int32} {σ : xM} {y : Int32 × xM} (h : f124 l0 l1 σ = some y) : Rn (d + 0) 124 0 [.int l0, .int l1] [] σ (some (.int y.1), y.2) := by
  unfold f124 at h
  refine rn_steps 1 1 [.int l0, .int l1] [.int l1] rfl ?_
  refine rn_br (c := l1 < 0) rfl rfl decide_eq_true_iff (fun hb => ?_) (fun hb => ?_)
  · rw [if_pos hb] at h
    refine rn_steps 0 23 [.int l0, .int l1] [] rfl ?_
    exact e124_23 d _ _ _ _ h
  · rw [if_neg hb] at h
    refine rn_steps 2 7 [.int l0, .int l1] [.int 6, .int l1] rfl ?_
    refine rn_br (c := 6 ≤ l1) rfl rfl decide_eq_true_iff (fun hb => ?_) (fun hb => ?_)
    · rw [if_pos hb] at h
      refine rn_steps 0 23 [.int l0, .int l1] [] rfl ?_
      exact e124_23 d _ _ _ _ h
    · rw [if_neg hb] at h
      refine rn_steps 6 16 [.int l0, .int l1] [.int 1, .int ((l0 >>> (l1 &&& 31)) &&& 1)] rfl ?_
      refine rn_br (c := ¬ ((l0 >>> (l1 &&& 31)) &&& 1) = 1) rfl rfl decide_eq_true_iff (fun hb => ?_) (fun hb => ?_)
      · rw [if_neg hb] at h
        refine rn_steps 0 23 [.int l0, .int l1] [] rfl ?_
        exact e124_23 d _ _ _ _ h
      · rw [if_pos (Decidable.not_not.mp hb)] at h
        refine rn_steps 2 24 [.int l0, .int l1] [.int 1] rfl ?_
        exact e124_24 d _ _ _ _ _ h
noncomputable def f4_53 (s0 : Int32) (σ : xM) : Option (Int32 × xM) :=
  rZ s0 σ
set_option maxRecDepth 20000 in
set_option maxHeartbeats 1000000 in
theorem e4_53 (d : Nat) (s0 : Int32) (x0 x1 x2 : Value) (σ : xM) (y : Int32 × xM) (h : f4_53 s0 σ = some y) : Rn (d + 1) 4 53 [x0, x1, x2] [.int s0] σ (some (.int y.1), y.2) := by
  unfold f4_53 at h
  exact rn_retZ rfl rfl h
noncomputable def f4_52 (σ : xM) : Option (Int32 × xM) :=
  f4_53 0 σ
set_option maxRecDepth 20000 in
set_option maxHeartbeats 1000000 in
theorem e4_52 (d : Nat) (x0 x1 x2 : Value) (σ : xM) (y : Int32 × xM) (h : f4_52 σ = some y) : Rn (d + 1) 4 52 [x0, x1, x2] [] σ (some (.int y.1), y.2) := by
  unfold f4_52 at h
  refine rn_steps 1 53 [x0, x1, x2] [.int 0] rfl ?_
  exact e4_53 d _ _ _ _ _ _ h
noncomputable def f4_48 (σ : xM) : Option (Int32 × xM) :=
  f4_53 1 σ
set_option maxRecDepth 20000 in
set_option maxHeartbeats 1000000 in
theorem e4_48 (d : Nat) (x0 x1 x2 : Value) (σ : xM) (y : Int32 × xM) (h : f4_48 σ = some y) : Rn (d + 1) 4 48 [x0, x1, x2] [] σ (some (.int y.1), y.2) := by
  unfold f4_48 at h
  refine rn_steps 2 53 [x0, x1, x2] [.int 1] rfl ?_
  exact e4_53 d _ _ _ _ _ _ h
/-- LastAsked$City.allows(II)Z -/
noncomputable def f4 (l0 : Nat) (l1 : Int32) (l2 : Int32) (σ : xM) : Option (Int32 × xM) :=
  if l1 = l2 then
  f4_52 σ
  else
  (gR σ l0 0 7).bind fun r1 =>
  (aI σ r1 l1).bind fun v2 =>
  if v2 = 3 then
  f4_52 σ
  else
  (gR σ l0 0 7).bind fun r3 =>
  (aI σ r3 l2).bind fun v4 =>
  if v4 = 1 then
  f4_52 σ
  else
  (gR σ l0 0 7).bind fun r5 =>
  (aI σ r5 l2).bind fun v6 =>
  if v6 = 2 then
  (gR σ l0 0 10).bind fun r7 =>
  (aI σ r7 l2).bind fun v8 =>
  (f124 v8 l1 σ).bind fun y9 =>
  if y9.1 = 0 then
  f4_52 y9.2
  else
  f4_48 y9.2
  else
  f4_48 σ
set_option maxRecDepth 20000 in
set_option maxHeartbeats 1000000 in
theorem e4 (d : Nat) {l0 : Nat} {l1 : Int32} {l2 : Int32} {σ : xM} {y : Int32 × xM} (h : f4 l0 l1 l2 σ = some y) : Rn (d + 1) 4 0 [.ref l0, .int l1, .int l2] [] σ (some (.int y.1), y.2) := by
  unfold f4 at h
  refine rn_steps 2 2 [.ref l0, .int l1, .int l2] [.int l2, .int l1] rfl ?_
  refine rn_br (c := l1 = l2) rfl rfl decide_eq_true_iff (fun hb => ?_) (fun hb => ?_)
  · rw [if_pos hb] at h
    refine rn_steps 0 52 [.ref l0, .int l1, .int l2] [] rfl ?_
    exact e4_52 d _ _ _ _ _ h
  · rw [if_neg hb] at h
    refine rn_steps 1 6 [.ref l0, .int l1, .int l2] [.ref l0] rfl ?_
    obtain ⟨r1, hr1, h⟩ := Option.bind_eq_some_iff.mp h
    refine rn_gR (c := 0) (f := 7) rfl rfl ⟨⟨rfl, rfl⟩, rfl⟩ hr1 ?_
    refine rn_steps 1 10 [.ref l0, .int l1, .int l2] [.int l1, .ref r1] rfl ?_
    obtain ⟨v2, hv2, h⟩ := Option.bind_eq_some_iff.mp h
    refine rn_aI rfl hv2 ?_
    refine rn_steps 1 12 [.ref l0, .int l1, .int l2] [.int 3, .int v2] rfl ?_
    refine rn_br (c := v2 = 3) rfl rfl decide_eq_true_iff (fun hb => ?_) (fun hb => ?_)
    · rw [if_pos hb] at h
      refine rn_steps 0 52 [.ref l0, .int l1, .int l2] [] rfl ?_
      exact e4_52 d _ _ _ _ _ h
    · rw [if_neg hb] at h
      refine rn_steps 1 16 [.ref l0, .int l1, .int l2] [.ref l0] rfl ?_
      obtain ⟨r3, hr3, h⟩ := Option.bind_eq_some_iff.mp h
      refine rn_gR (c := 0) (f := 7) rfl rfl ⟨⟨rfl, rfl⟩, rfl⟩ hr3 ?_
      refine rn_steps 1 20 [.ref l0, .int l1, .int l2] [.int l2, .ref r3] rfl ?_
      obtain ⟨v4, hv4, h⟩ := Option.bind_eq_some_iff.mp h
      refine rn_aI rfl hv4 ?_
      refine rn_steps 1 22 [.ref l0, .int l1, .int l2] [.int 1, .int v4] rfl ?_
      refine rn_br (c := v4 = 1) rfl rfl decide_eq_true_iff (fun hb => ?_) (fun hb => ?_)
      · rw [if_pos hb] at h
        refine rn_steps 0 52 [.ref l0, .int l1, .int l2] [] rfl ?_
        exact e4_52 d _ _ _ _ _ h
      · rw [if_neg hb] at h
        refine rn_steps 1 26 [.ref l0, .int l1, .int l2] [.ref l0] rfl ?_
        obtain ⟨r5, hr5, h⟩ := Option.bind_eq_some_iff.mp h
        refine rn_gR (c := 0) (f := 7) rfl rfl ⟨⟨rfl, rfl⟩, rfl⟩ hr5 ?_
        refine rn_steps 1 30 [.ref l0, .int l1, .int l2] [.int l2, .ref r5] rfl ?_
        obtain ⟨v6, hv6, h⟩ := Option.bind_eq_some_iff.mp h
        refine rn_aI rfl hv6 ?_
        refine rn_steps 1 32 [.ref l0, .int l1, .int l2] [.int 2, .int v6] rfl ?_
        refine rn_br (c := ¬ v6 = 2) rfl rfl decide_eq_true_iff (fun hb => ?_) (fun hb => ?_)
        · rw [if_neg hb] at h
          refine rn_steps 0 48 [.ref l0, .int l1, .int l2] [] rfl ?_
          exact e4_48 d _ _ _ _ _ h
        · rw [if_pos (Decidable.not_not.mp hb)] at h
          refine rn_steps 1 36 [.ref l0, .int l1, .int l2] [.ref l0] rfl ?_
          obtain ⟨r7, hr7, h⟩ := Option.bind_eq_some_iff.mp h
          refine rn_gR (c := 0) (f := 10) rfl rfl ⟨⟨rfl, rfl⟩, rfl⟩ hr7 ?_
          refine rn_steps 1 40 [.ref l0, .int l1, .int l2] [.int l2, .ref r7] rfl ?_
          obtain ⟨v8, hv8, h⟩ := Option.bind_eq_some_iff.mp h
          refine rn_aI rfl hv8 ?_
          refine rn_steps 1 42 [.ref l0, .int l1, .int l2] [.int l1, .int v8] rfl ?_
          obtain ⟨y9, hy9, h⟩ := Option.bind_eq_some_iff.mp h
          refine rn_callS [.int v8, .int l1] rfl rfl rfl ⟨rfl, rfl, rfl⟩ rfl rfl (e124 d hy9) ?_
          refine rn_steps 0 45 [.ref l0, .int l1, .int l2] [.int y9.1] rfl ?_
          refine rn_br (c := y9.1 = 0) rfl rfl decide_eq_true_iff (fun hb => ?_) (fun hb => ?_)
          · rw [if_pos hb] at h
            refine rn_steps 0 52 [.ref l0, .int l1, .int l2] [] rfl ?_
            exact e4_52 d _ _ _ _ _ h
          · rw [if_neg hb] at h
            refine rn_steps 0 48 [.ref l0, .int l1, .int l2] [] rfl ?_
            exact e4_48 d _ _ _ _ _ h
/-- LastAsked.pair(II)I -/
noncomputable def f125 (l0 : Int32) (l1 : Int32) (σ : xM) : Option (Int32 × xM) :=
  some (((l0 * 6) + l1), σ)
set_option maxRecDepth 20000 in
set_option maxHeartbeats 1000000 in
theorem e125 (d : Nat) {l0 : Int32} {l1 : Int32} {σ : xM} {y : Int32 × xM} (h : f125 l0 l1 σ = some y) : Rn (d + 0) 125 0 [.int l0, .int l1] [] σ (some (.int y.1), y.2) := by
  unfold f125 at h
  refine rn_steps 5 6 [.int l0, .int l1] [.int ((l0 * 6) + l1)] rfl ?_
  cases h
  exact rn_ret rfl rfl rfl
noncomputable def f5_131 (σ : xM) : Option xM :=
  some σ
set_option maxRecDepth 20000 in
set_option maxHeartbeats 1000000 in
theorem e5_131 (d : Nat) (x0 x1 x2 x3 : Value) (σ : xM) (y : xM) (h : f5_131 σ = some y) : Rn (d + 1) 5 131 [x0, x1, x2, x3] [] σ (none, y) := by
  unfold f5_131 at h
  cases h
  exact rn_ret rfl rfl rfl
noncomputable def f5_125 (K61 : Nat → Int32 → xM → Option xM) (l0 : Nat) (l1 : Int32) (σ : xM) : Option xM :=
  K61 l0 (l1 + 1) σ
set_option maxRecDepth 20000 in
set_option maxHeartbeats 1000000 in
theorem e5_125 (d : Nat) (K61 : Nat → Int32 → xM → Option xM) (hK61 : ∀ (l0 : Nat) (l1 : Int32) (x2 x3 : Value) (σ : xM) (y : xM), K61 l0 l1 σ = some y → Rn (d + 1) 5 61 [.ref l0, .int l1, x2, x3] [] σ (none, y)) (l0 : Nat) (l1 : Int32) (x2 x3 : Value) (σ : xM) (y : xM) (h : f5_125 K61 l0 l1 σ = some y) : Rn (d + 1) 5 125 [.ref l0, .int l1, x2, x3] [] σ (none, y) := by
  unfold f5_125 at h
  refine rn_steps 2 61 [.ref l0, .int (l1 + 1), x2, x3] [] rfl ?_
  exact hK61 _ _ _ _ _ _ h
noncomputable def f5_69 (K61 : Nat → Int32 → xM → Option xM) : Nat → Nat → Int32 → Int32 → xM → Option xM
  | 0, _, _, _, _ => none
  | n + 1, l0, l1, l2, σ =>
    if 36 ≤ l2 then
    f5_125 K61 l0 l1 σ
    else
    (gR σ l0 0 13).bind fun r1 =>
    (dI l2 6).bind fun v2 =>
    (f125 v2 l1 σ).bind fun y3 =>
    (aI y3.2 r1 y3.1).bind fun v4 =>
    (gR y3.2 l0 0 13).bind fun r5 =>
    (rI l2 6).bind fun v6 =>
    (f125 l1 v6 y3.2).bind fun y7 =>
    (aI y7.2 r5 y7.1).bind fun v8 =>
    (gR y7.2 l0 0 13).bind fun r9 =>
    (gR y7.2 l0 0 13).bind fun r10 =>
    (aI y7.2 r10 l2).bind fun v11 =>
    (tI y7.2 r9 l2 (if (v4 + v8) < v11 then (v4 + v8) else v11)).bind fun σ12 =>
    (f5_69 K61 n) l0 l1 (l2 + 1) σ12
set_option maxRecDepth 20000 in
set_option maxHeartbeats 1000000 in
theorem e5_69 (d : Nat) (K61 : Nat → Int32 → xM → Option xM) (hK61 : ∀ (l0 : Nat) (l1 : Int32) (x2 x3 : Value) (σ : xM) (y : xM), K61 l0 l1 σ = some y → Rn (d + 1) 5 61 [.ref l0, .int l1, x2, x3] [] σ (none, y)) : ∀ (n : Nat) (l0 : Nat) (l1 : Int32) (l2 : Int32) (x3 : Value) (σ : xM) (y : xM), f5_69 K61 n l0 l1 l2 σ = some y → Rn (d + 1) 5 69 [.ref l0, .int l1, .int l2, x3] [] σ (none, y) := by
  intro n
  induction n with
  | zero => intro l0 l1 l2 x3 σ y h; cases h
  | succ n ih =>
    intro l0 l1 l2 x3 σ y h
    unfold f5_69 at h
    refine rn_steps 2 72 [.ref l0, .int l1, .int l2, x3] [.int 36, .int l2] rfl ?_
    refine rn_br (c := 36 ≤ l2) rfl rfl decide_eq_true_iff (fun hb => ?_) (fun hb => ?_)
    · rw [if_pos hb] at h
      refine rn_steps 0 125 [.ref l0, .int l1, .int l2, x3] [] rfl ?_
      exact e5_125 d _ hK61 _ _ _ _ _ _ h
    · rw [if_neg hb] at h
      refine rn_steps 1 76 [.ref l0, .int l1, .int l2, x3] [.ref l0] rfl ?_
      obtain ⟨r1, hr1, h⟩ := Option.bind_eq_some_iff.mp h
      refine rn_gR (c := 0) (f := 13) rfl rfl ⟨⟨rfl, rfl⟩, rfl⟩ hr1 ?_
      refine rn_steps 2 82 [.ref l0, .int l1, .int l2, x3] [.int 6, .int l2, .ref r1] rfl ?_
      obtain ⟨v2, hv2, h⟩ := Option.bind_eq_some_iff.mp h
      refine rn_dI rfl hv2 ?_
      refine rn_steps 1 84 [.ref l0, .int l1, .int l2, x3] [.int l1, .int v2, .ref r1] rfl ?_
      obtain ⟨y3, hy3, h⟩ := Option.bind_eq_some_iff.mp h
      refine rn_callS [.int v2, .int l1] rfl rfl rfl ⟨rfl, rfl, rfl⟩ rfl rfl (e125 d hy3) ?_
      refine rn_steps 0 87 [.ref l0, .int l1, .int l2, x3] [.int y3.1, .ref r1] rfl ?_
      obtain ⟨v4, hv4, h⟩ := Option.bind_eq_some_iff.mp h
      refine rn_aI rfl hv4 ?_
      refine rn_steps 1 89 [.ref l0, .int l1, .int l2, x3] [.ref l0, .int v4] rfl ?_
      obtain ⟨r5, hr5, h⟩ := Option.bind_eq_some_iff.mp h
      refine rn_gR (c := 0) (f := 13) rfl rfl ⟨⟨rfl, rfl⟩, rfl⟩ hr5 ?_
      refine rn_steps 3 96 [.ref l0, .int l1, .int l2, x3] [.int 6, .int l2, .int l1, .ref r5, .int v4] rfl ?_
      obtain ⟨v6, hv6, h⟩ := Option.bind_eq_some_iff.mp h
      refine rn_rI rfl hv6 ?_
      refine rn_steps 0 97 [.ref l0, .int l1, .int l2, x3] [.int v6, .int l1, .ref r5, .int v4] rfl ?_
      obtain ⟨y7, hy7, h⟩ := Option.bind_eq_some_iff.mp h
      refine rn_callS [.int l1, .int v6] rfl rfl rfl ⟨rfl, rfl, rfl⟩ rfl rfl (e125 d hy7) ?_
      refine rn_steps 0 100 [.ref l0, .int l1, .int l2, x3] [.int y7.1, .ref r5, .int v4] rfl ?_
      obtain ⟨v8, hv8, h⟩ := Option.bind_eq_some_iff.mp h
      refine rn_aI rfl hv8 ?_
      refine rn_steps 3 104 [.ref l0, .int l1, .int l2, .int (v4 + v8)] [.ref l0] rfl ?_
      obtain ⟨r9, hr9, h⟩ := Option.bind_eq_some_iff.mp h
      refine rn_gR (c := 0) (f := 13) rfl rfl ⟨⟨rfl, rfl⟩, rfl⟩ hr9 ?_
      refine rn_steps 2 109 [.ref l0, .int l1, .int l2, .int (v4 + v8)] [.ref l0, .int l2, .ref r9] rfl ?_
      obtain ⟨r10, hr10, h⟩ := Option.bind_eq_some_iff.mp h
      refine rn_gR (c := 0) (f := 13) rfl rfl ⟨⟨rfl, rfl⟩, rfl⟩ hr10 ?_
      refine rn_steps 1 113 [.ref l0, .int l1, .int l2, .int (v4 + v8)] [.int l2, .ref r10, .int l2, .ref r9] rfl ?_
      obtain ⟨v11, hv11, h⟩ := Option.bind_eq_some_iff.mp h
      refine rn_aI rfl hv11 ?_
      refine rn_steps 2 118 [.ref l0, .int l1, .int l2, .int (v4 + v8)] [.int (if (v4 + v8) < v11 then (v4 + v8) else v11), .int l2, .ref r9] rfl ?_
      obtain ⟨σ12, hσ12, h⟩ := Option.bind_eq_some_iff.mp h
      refine rn_tI rfl hσ12 ?_
      refine rn_steps 2 69 [.ref l0, .int l1, .int (l2 + 1), .int (v4 + v8)] [] rfl ?_
      exact ih _ _ _ _ _ _ h
noncomputable def f5_61 : Nat → Nat → Int32 → xM → Option xM
  | 0, _, _, _ => none
  | n + 1, l0, l1, σ =>
    if 6 ≤ l1 then
    f5_131 σ
    else
    f5_69 (f5_61 n) 1100 l0 l1 0 σ
set_option maxRecDepth 20000 in
set_option maxHeartbeats 1000000 in
theorem e5_61 (d : Nat) : ∀ (n : Nat) (l0 : Nat) (l1 : Int32) (x2 x3 : Value) (σ : xM) (y : xM), f5_61 n l0 l1 σ = some y → Rn (d + 1) 5 61 [.ref l0, .int l1, x2, x3] [] σ (none, y) := by
  intro n
  induction n with
  | zero => intro l0 l1 x2 x3 σ y h; cases h
  | succ n ih =>
    intro l0 l1 x2 x3 σ y h
    unfold f5_61 at h
    refine rn_steps 2 64 [.ref l0, .int l1, x2, x3] [.int 6, .int l1] rfl ?_
    refine rn_br (c := 6 ≤ l1) rfl rfl decide_eq_true_iff (fun hb => ?_) (fun hb => ?_)
    · rw [if_pos hb] at h
      refine rn_steps 0 131 [.ref l0, .int l1, x2, x3] [] rfl ?_
      exact e5_131 d _ _ _ _ _ _ h
    · rw [if_neg hb] at h
      refine rn_steps 2 69 [.ref l0, .int l1, .int 0, x3] [] rfl ?_
      exact e5_69 d _ ih 1100 _ _ _ _ _ _ h
noncomputable def f5_59 (l0 : Nat) (σ : xM) : Option xM :=
  f5_61 1100 l0 0 σ
set_option maxRecDepth 20000 in
set_option maxHeartbeats 1000000 in
theorem e5_59 (d : Nat) (l0 : Nat) (x1 x2 x3 : Value) (σ : xM) (y : xM) (h : f5_59 l0 σ = some y) : Rn (d + 1) 5 59 [.ref l0, x1, x2, x3] [] σ (none, y) := by
  unfold f5_59 at h
  refine rn_steps 2 61 [.ref l0, .int 0, x2, x3] [] rfl ?_
  exact e5_61 d 1100 _ _ _ _ _ _ h
noncomputable def f5_52 (K2 : Nat → Int32 → xM → Option xM) (l0 : Nat) (l1 : Int32) (s0 : Int32) (s1 : Int32) (s2 : Nat) (σ : xM) : Option xM :=
  (tI σ s2 s1 s0).bind fun σ1 =>
  K2 l0 (l1 + 1) σ1
set_option maxRecDepth 20000 in
set_option maxHeartbeats 1000000 in
theorem e5_52 (d : Nat) (K2 : Nat → Int32 → xM → Option xM) (hK2 : ∀ (l0 : Nat) (l1 : Int32) (x2 x3 : Value) (σ : xM) (y : xM), K2 l0 l1 σ = some y → Rn (d + 1) 5 2 [.ref l0, .int l1, x2, x3] [] σ (none, y)) (l0 : Nat) (l1 : Int32) (s0 : Int32) (s1 : Int32) (s2 : Nat) (x2 x3 : Value) (σ : xM) (y : xM) (h : f5_52 K2 l0 l1 s0 s1 s2 σ = some y) : Rn (d + 1) 5 52 [.ref l0, .int l1, x2, x3] [.int s0, .int s1, .ref s2] σ (none, y) := by
  unfold f5_52 at h
  obtain ⟨σ1, hσ1, h⟩ := Option.bind_eq_some_iff.mp h
  refine rn_tI rfl hσ1 ?_
  refine rn_steps 2 2 [.ref l0, .int (l1 + 1), x2, x3] [] rfl ?_
  exact hK2 _ _ _ _ _ _ h
noncomputable def f5_2 : Nat → Nat → Int32 → xM → Option xM
  | 0, _, _, _ => none
  | n + 1, l0, l1, σ =>
    if 36 ≤ l1 then
    f5_59 l0 σ
    else
    (dI l1 6).bind fun v1 =>
    (rI l1 6).bind fun v2 =>
    (gR σ l0 0 13).bind fun r3 =>
    if v1 = v2 then
    f5_52 (f5_2 n) l0 l1 0 l1 r3 σ
    else
    (gR σ l0 0 10).bind fun r4 =>
    (aI σ r4 v1).bind fun v5 =>
    (f124 v5 v2 σ).bind fun y6 =>
    if y6.1 = 0 then
    f5_52 (f5_2 n) l0 l1 1000 l1 r3 y6.2
    else
    f5_52 (f5_2 n) l0 l1 1 l1 r3 y6.2
set_option maxRecDepth 20000 in
set_option maxHeartbeats 1000000 in
theorem e5_2 (d : Nat) : ∀ (n : Nat) (l0 : Nat) (l1 : Int32) (x2 x3 : Value) (σ : xM) (y : xM), f5_2 n l0 l1 σ = some y → Rn (d + 1) 5 2 [.ref l0, .int l1, x2, x3] [] σ (none, y) := by
  intro n
  induction n with
  | zero => intro l0 l1 x2 x3 σ y h; cases h
  | succ n ih =>
    intro l0 l1 x2 x3 σ y h
    unfold f5_2 at h
    refine rn_steps 2 5 [.ref l0, .int l1, x2, x3] [.int 36, .int l1] rfl ?_
    refine rn_br (c := 36 ≤ l1) rfl rfl decide_eq_true_iff (fun hb => ?_) (fun hb => ?_)
    · rw [if_pos hb] at h
      refine rn_steps 0 59 [.ref l0, .int l1, x2, x3] [] rfl ?_
      exact e5_59 d _ _ _ _ _ _ h
    · rw [if_neg hb] at h
      refine rn_steps 2 11 [.ref l0, .int l1, x2, x3] [.int 6, .int l1] rfl ?_
      obtain ⟨v1, hv1, h⟩ := Option.bind_eq_some_iff.mp h
      refine rn_dI rfl hv1 ?_
      refine rn_steps 3 16 [.ref l0, .int l1, .int v1, x3] [.int 6, .int l1] rfl ?_
      obtain ⟨v2, hv2, h⟩ := Option.bind_eq_some_iff.mp h
      refine rn_rI rfl hv2 ?_
      refine rn_steps 2 19 [.ref l0, .int l1, .int v1, .int v2] [.ref l0] rfl ?_
      obtain ⟨r3, hr3, h⟩ := Option.bind_eq_some_iff.mp h
      refine rn_gR (c := 0) (f := 13) rfl rfl ⟨⟨rfl, rfl⟩, rfl⟩ hr3 ?_
      refine rn_steps 3 25 [.ref l0, .int l1, .int v1, .int v2] [.int v2, .int v1, .int l1, .ref r3] rfl ?_
      refine rn_br (c := ¬ v1 = v2) rfl rfl decide_eq_true_iff (fun hb => ?_) (fun hb => ?_)
      · rw [if_neg hb] at h
        refine rn_steps 1 33 [.ref l0, .int l1, .int v1, .int v2] [.ref l0, .int l1, .ref r3] rfl ?_
        obtain ⟨r4, hr4, h⟩ := Option.bind_eq_some_iff.mp h
        refine rn_gR (c := 0) (f := 10) rfl rfl ⟨⟨rfl, rfl⟩, rfl⟩ hr4 ?_
        refine rn_steps 1 37 [.ref l0, .int l1, .int v1, .int v2] [.int v1, .ref r4, .int l1, .ref r3] rfl ?_
        obtain ⟨v5, hv5, h⟩ := Option.bind_eq_some_iff.mp h
        refine rn_aI rfl hv5 ?_
        refine rn_steps 1 39 [.ref l0, .int l1, .int v1, .int v2] [.int v2, .int v5, .int l1, .ref r3] rfl ?_
        obtain ⟨y6, hy6, h⟩ := Option.bind_eq_some_iff.mp h
        refine rn_callS [.int v5, .int v2] rfl rfl rfl ⟨rfl, rfl, rfl⟩ rfl rfl (e124 d hy6) ?_
        refine rn_steps 0 42 [.ref l0, .int l1, .int v1, .int v2] [.int y6.1, .int l1, .ref r3] rfl ?_
        refine rn_br (c := y6.1 = 0) rfl rfl decide_eq_true_iff (fun hb => ?_) (fun hb => ?_)
        · rw [if_pos hb] at h
          refine rn_steps 1 52 [.ref l0, .int l1, .int v1, .int v2] [.int 1000, .int l1, .ref r3] rfl ?_
          exact e5_52 d _ ih _ _ _ _ _ _ _ _ _ h
        · rw [if_neg hb] at h
          refine rn_steps 2 52 [.ref l0, .int l1, .int v1, .int v2] [.int 1, .int l1, .ref r3] rfl ?_
          exact e5_52 d _ ih _ _ _ _ _ _ _ _ _ h
      · rw [if_pos (Decidable.not_not.mp hb)] at h
        refine rn_steps 2 52 [.ref l0, .int l1, .int v1, .int v2] [.int 0, .int l1, .ref r3] rfl ?_
        exact e5_52 d _ ih _ _ _ _ _ _ _ _ _ h
/-- LastAsked$City.measureWays()V -/
noncomputable def f5 (l0 : Nat) (σ : xM) : Option xM :=
  f5_2 1100 l0 0 σ
set_option maxRecDepth 20000 in
set_option maxHeartbeats 1000000 in
theorem e5 (d : Nat) {l0 : Nat} {σ : xM} {y : xM} (h : f5 l0 σ = some y) : Rn (d + 1) 5 0 [.ref l0, .retAddr 0, .retAddr 0, .retAddr 0] [] σ (none, y) := by
  unfold f5 at h
  refine rn_steps 2 2 [.ref l0, .int 0, .retAddr 0, .retAddr 0] [] rfl ?_
  exact e5_2 d 1100 _ _ _ _ _ _ h
/-- LastAsked$Fits.<init>()V -/
noncomputable def f6 (l0 : Nat) (σ : xM) : Option xM :=
  (pI σ l0 1 0 1).bind fun σ1 =>
  (nA σ1 11 3).bind fun σ2 =>
  (pR σ2 l0 1 1 (mN σ1)).bind fun σ3 =>
  (nA σ3 11 3).bind fun σ4 =>
  (pR σ4 l0 1 2 (mN σ3)).bind fun σ5 =>
  (nA σ5 11 3).bind fun σ6 =>
  (pR σ6 l0 1 3 (mN σ5)).bind fun σ7 =>
  (nA σ7 11 36).bind fun σ8 =>
  (pR σ8 l0 1 4 (mN σ7)).bind fun σ9 =>
  (nA σ9 11 21).bind fun σ10 =>
  (pR σ10 l0 1 5 (mN σ9)).bind fun σ11 =>
  some σ11
set_option maxRecDepth 20000 in
set_option maxHeartbeats 1000000 in
theorem e6 (d : Nat) {l0 : Nat} {σ : xM} {y : xM} (h : f6 l0 σ = some y) : Rn (d + 1) 6 0 [.ref l0] [] σ (none, y) := by
  unfold f6 at h
  refine rn_steps 4 6 [.ref l0] [.int 1, .ref l0] rfl ?_
  obtain ⟨σ1, hσ1, h⟩ := Option.bind_eq_some_iff.mp h
  refine rn_pI (c := 1) (f := 0) rfl rfl ⟨⟨rfl, rfl⟩, rfl⟩ hσ1 ?_
  refine rn_steps 2 11 [.ref l0] [.int 3, .ref l0] rfl ?_
  obtain ⟨σ2, hσ2, h⟩ := Option.bind_eq_some_iff.mp h
  refine rn_nA rfl hσ2 ?_
  refine rn_steps 0 13 [.ref l0] [.ref (mN σ1), .ref l0] rfl ?_
  obtain ⟨σ3, hσ3, h⟩ := Option.bind_eq_some_iff.mp h
  refine rn_pR (c := 1) (f := 1) rfl rfl ⟨⟨rfl, rfl⟩, rfl⟩ hσ3 ?_
  refine rn_steps 2 18 [.ref l0] [.int 3, .ref l0] rfl ?_
  obtain ⟨σ4, hσ4, h⟩ := Option.bind_eq_some_iff.mp h
  refine rn_nA rfl hσ4 ?_
  refine rn_steps 0 20 [.ref l0] [.ref (mN σ3), .ref l0] rfl ?_
  obtain ⟨σ5, hσ5, h⟩ := Option.bind_eq_some_iff.mp h
  refine rn_pR (c := 1) (f := 2) rfl rfl ⟨⟨rfl, rfl⟩, rfl⟩ hσ5 ?_
  refine rn_steps 2 25 [.ref l0] [.int 3, .ref l0] rfl ?_
  obtain ⟨σ6, hσ6, h⟩ := Option.bind_eq_some_iff.mp h
  refine rn_nA rfl hσ6 ?_
  refine rn_steps 0 27 [.ref l0] [.ref (mN σ5), .ref l0] rfl ?_
  obtain ⟨σ7, hσ7, h⟩ := Option.bind_eq_some_iff.mp h
  refine rn_pR (c := 1) (f := 3) rfl rfl ⟨⟨rfl, rfl⟩, rfl⟩ hσ7 ?_
  refine rn_steps 2 33 [.ref l0] [.int 36, .ref l0] rfl ?_
  obtain ⟨σ8, hσ8, h⟩ := Option.bind_eq_some_iff.mp h
  refine rn_nA rfl hσ8 ?_
  refine rn_steps 0 35 [.ref l0] [.ref (mN σ7), .ref l0] rfl ?_
  obtain ⟨σ9, hσ9, h⟩ := Option.bind_eq_some_iff.mp h
  refine rn_pR (c := 1) (f := 4) rfl rfl ⟨⟨rfl, rfl⟩, rfl⟩ hσ9 ?_
  refine rn_steps 2 41 [.ref l0] [.int 21, .ref l0] rfl ?_
  obtain ⟨σ10, hσ10, h⟩ := Option.bind_eq_some_iff.mp h
  refine rn_nA rfl hσ10 ?_
  refine rn_steps 0 43 [.ref l0] [.ref (mN σ9), .ref l0] rfl ?_
  obtain ⟨σ11, hσ11, h⟩ := Option.bind_eq_some_iff.mp h
  refine rn_pR (c := 1) (f := 5) rfl rfl ⟨⟨rfl, rfl⟩, rfl⟩ hσ11 ?_
  refine rn_steps 0 46 [.ref l0] [] rfl ?_
  cases h
  exact rn_ret rfl rfl rfl
noncomputable def f7_138 (σ : xM) : Option xM :=
  some σ
set_option maxRecDepth 20000 in
set_option maxHeartbeats 1000000 in
theorem e7_138 (d : Nat) (x0 x1 x2 x3 : Value) (σ : xM) (y : xM) (h : f7_138 σ = some y) : Rn (d + 1) 7 138 [x0, x1, x2, x3] [] σ (none, y) := by
  unfold f7_138 at h
  cases h
  exact rn_ret rfl rfl rfl
noncomputable def f7_106 (K22 : Nat → Nat → Int32 → xM → Option xM) (l0 : Nat) (l1 : Nat) (l2 : Int32) (s0 : Int32) (s1 : Int32) (s2 : Nat) (σ : xM) : Option xM :=
  (tI σ s2 s1 s0).bind fun σ1 =>
  (gR σ1 l0 1 3).bind fun r2 =>
  (gI σ1 l0 1 0).bind fun v3 =>
  (tI σ1 r2 l2 v3).bind fun σ4 =>
  (gI σ4 l0 1 0).bind fun v5 =>
  (gR σ4 l0 1 2).bind fun r6 =>
  (aI σ4 r6 l2).bind fun v7 =>
  (pI σ4 l0 1 0 (v5 * v7)).bind fun σ8 =>
  K22 l0 l1 (l2 + (-1)) σ8
set_option maxRecDepth 20000 in
set_option maxHeartbeats 1000000 in
theorem e7_106 (d : Nat) (K22 : Nat → Nat → Int32 → xM → Option xM) (hK22 : ∀ (l0 : Nat) (l1 : Nat) (l2 : Int32) (x3 : Value) (σ : xM) (y : xM), K22 l0 l1 l2 σ = some y → Rn (d + 1) 7 22 [.ref l0, .ref l1, .int l2, x3] [] σ (none, y)) (l0 : Nat) (l1 : Nat) (l2 : Int32) (s0 : Int32) (s1 : Int32) (s2 : Nat) (x3 : Value) (σ : xM) (y : xM) (h : f7_106 K22 l0 l1 l2 s0 s1 s2 σ = some y) : Rn (d + 1) 7 106 [.ref l0, .ref l1, .int l2, x3] [.int s0, .int s1, .ref s2] σ (none, y) := by
  unfold f7_106 at h
  obtain ⟨σ1, hσ1, h⟩ := Option.bind_eq_some_iff.mp h
  refine rn_tI rfl hσ1 ?_
  refine rn_steps 1 108 [.ref l0, .ref l1, .int l2, x3] [.ref l0] rfl ?_
  obtain ⟨r2, hr2, h⟩ := Option.bind_eq_some_iff.mp h
  refine rn_gR (c := 1) (f := 3) rfl rfl ⟨⟨rfl, rfl⟩, rfl⟩ hr2 ?_
  refine rn_steps 2 113 [.ref l0, .ref l1, .int l2, x3] [.ref l0, .int l2, .ref r2] rfl ?_
  obtain ⟨v3, hv3, h⟩ := Option.bind_eq_some_iff.mp h
  refine rn_gI (c := 1) (f := 0) rfl rfl ⟨⟨rfl, rfl⟩, Or.inl rfl⟩ hv3 ?_
  refine rn_steps 0 116 [.ref l0, .ref l1, .int l2, x3] [.int v3, .int l2, .ref r2] rfl ?_
  obtain ⟨σ4, hσ4, h⟩ := Option.bind_eq_some_iff.mp h
  refine rn_tI rfl hσ4 ?_
  refine rn_steps 2 119 [.ref l0, .ref l1, .int l2, x3] [.ref l0, .ref l0] rfl ?_
  obtain ⟨v5, hv5, h⟩ := Option.bind_eq_some_iff.mp h
  refine rn_gI (c := 1) (f := 0) rfl rfl ⟨⟨rfl, rfl⟩, Or.inl rfl⟩ hv5 ?_
  refine rn_steps 1 123 [.ref l0, .ref l1, .int l2, x3] [.ref l0, .int v5, .ref l0] rfl ?_
  obtain ⟨r6, hr6, h⟩ := Option.bind_eq_some_iff.mp h
  refine rn_gR (c := 1) (f := 2) rfl rfl ⟨⟨rfl, rfl⟩, rfl⟩ hr6 ?_
  refine rn_steps 1 127 [.ref l0, .ref l1, .int l2, x3] [.int l2, .ref r6, .int v5, .ref l0] rfl ?_
  obtain ⟨v7, hv7, h⟩ := Option.bind_eq_some_iff.mp h
  refine rn_aI rfl hv7 ?_
  refine rn_steps 1 129 [.ref l0, .ref l1, .int l2, x3] [.int (v5 * v7), .ref l0] rfl ?_
  obtain ⟨σ8, hσ8, h⟩ := Option.bind_eq_some_iff.mp h
  refine rn_pI (c := 1) (f := 0) rfl rfl ⟨⟨rfl, rfl⟩, rfl⟩ hσ8 ?_
  refine rn_steps 2 22 [.ref l0, .ref l1, .int (l2 + (-1)), x3] [] rfl ?_
  exact hK22 _ _ _ _ _ _ h
noncomputable def f7_70 (K22 : Nat → Nat → Int32 → xM → Option xM) (l0 : Nat) (l1 : Nat) (l2 : Int32) (l3 : Int32) (s0 : Int32) (s1 : Int32) (s2 : Nat) (σ : xM) : Option xM :=
  (tI σ s2 s1 s0).bind fun σ1 =>
  (gR σ1 l0 1 2).bind fun r2 =>
  if l3 = 0 then
  f7_106 K22 l0 l1 l2 1 l2 r2 σ1
  else
  (gR σ1 l1 0 15).bind fun r3 =>
  (aI σ1 r3 l2).bind fun v4 =>
  (gR σ1 l1 0 16).bind fun r5 =>
  (aI σ1 r5 l2).bind fun v6 =>
  (gR σ1 l0 1 1).bind fun r7 =>
  (aI σ1 r7 l2).bind fun v8 =>
  f7_106 K22 l0 l1 l2 (((v4 + v6) - v8) + 1) l2 r2 σ1
set_option maxRecDepth 20000 in
set_option maxHeartbeats 1000000 in
theorem e7_70 (d : Nat) (K22 : Nat → Nat → Int32 → xM → Option xM) (hK22 : ∀ (l0 : Nat) (l1 : Nat) (l2 : Int32) (x3 : Value) (σ : xM) (y : xM), K22 l0 l1 l2 σ = some y → Rn (d + 1) 7 22 [.ref l0, .ref l1, .int l2, x3] [] σ (none, y)) (l0 : Nat) (l1 : Nat) (l2 : Int32) (l3 : Int32) (s0 : Int32) (s1 : Int32) (s2 : Nat) (σ : xM) (y : xM) (h : f7_70 K22 l0 l1 l2 l3 s0 s1 s2 σ = some y) : Rn (d + 1) 7 70 [.ref l0, .ref l1, .int l2, .int l3] [.int s0, .int s1, .ref s2] σ (none, y) := by
  unfold f7_70 at h
  obtain ⟨σ1, hσ1, h⟩ := Option.bind_eq_some_iff.mp h
  refine rn_tI rfl hσ1 ?_
  refine rn_steps 1 72 [.ref l0, .ref l1, .int l2, .int l3] [.ref l0] rfl ?_
  obtain ⟨r2, hr2, h⟩ := Option.bind_eq_some_iff.mp h
  refine rn_gR (c := 1) (f := 2) rfl rfl ⟨⟨rfl, rfl⟩, rfl⟩ hr2 ?_
  refine rn_steps 2 77 [.ref l0, .ref l1, .int l2, .int l3] [.int l3, .int l2, .ref r2] rfl ?_
  refine rn_br (c := l3 = 0) rfl rfl decide_eq_true_iff (fun hb => ?_) (fun hb => ?_)
  · rw [if_pos hb] at h
    refine rn_steps 1 106 [.ref l0, .ref l1, .int l2, .int l3] [.int 1, .int l2, .ref r2] rfl ?_
    exact e7_106 d _ hK22 _ _ _ _ _ _ _ _ _ h
  · rw [if_neg hb] at h
    refine rn_steps 1 81 [.ref l0, .ref l1, .int l2, .int l3] [.ref l1, .int l2, .ref r2] rfl ?_
    obtain ⟨r3, hr3, h⟩ := Option.bind_eq_some_iff.mp h
    refine rn_gR (c := 0) (f := 15) rfl rfl ⟨⟨rfl, rfl⟩, rfl⟩ hr3 ?_
    refine rn_steps 1 85 [.ref l0, .ref l1, .int l2, .int l3] [.int l2, .ref r3, .int l2, .ref r2] rfl ?_
    obtain ⟨v4, hv4, h⟩ := Option.bind_eq_some_iff.mp h
    refine rn_aI rfl hv4 ?_
    refine rn_steps 1 87 [.ref l0, .ref l1, .int l2, .int l3] [.ref l1, .int v4, .int l2, .ref r2] rfl ?_
    obtain ⟨r5, hr5, h⟩ := Option.bind_eq_some_iff.mp h
    refine rn_gR (c := 0) (f := 16) rfl rfl ⟨⟨rfl, rfl⟩, rfl⟩ hr5 ?_
    refine rn_steps 1 91 [.ref l0, .ref l1, .int l2, .int l3] [.int l2, .ref r5, .int v4, .int l2, .ref r2] rfl ?_
    obtain ⟨v6, hv6, h⟩ := Option.bind_eq_some_iff.mp h
    refine rn_aI rfl hv6 ?_
    refine rn_steps 2 94 [.ref l0, .ref l1, .int l2, .int l3] [.ref l0, .int (v4 + v6), .int l2, .ref r2] rfl ?_
    obtain ⟨r7, hr7, h⟩ := Option.bind_eq_some_iff.mp h
    refine rn_gR (c := 1) (f := 1) rfl rfl ⟨⟨rfl, rfl⟩, rfl⟩ hr7 ?_
    refine rn_steps 1 98 [.ref l0, .ref l1, .int l2, .int l3] [.int l2, .ref r7, .int (v4 + v6), .int l2, .ref r2] rfl ?_
    obtain ⟨v8, hv8, h⟩ := Option.bind_eq_some_iff.mp h
    refine rn_aI rfl hv8 ?_
    refine rn_steps 4 106 [.ref l0, .ref l1, .int l2, .int l3] [.int (((v4 + v6) - v8) + 1), .int l2, .ref r2] rfl ?_
    exact e7_106 d _ hK22 _ _ _ _ _ _ _ _ _ h
noncomputable def f7_39 (K22 : Nat → Nat → Int32 → xM → Option xM) (l0 : Nat) (l1 : Nat) (l2 : Int32) (s0 : Int32) (σ : xM) : Option xM :=
  (gR σ l0 1 1).bind fun r1 =>
  if s0 = 0 then
  f7_70 K22 l0 l1 l2 s0 0 l2 r1 σ
  else
  (gR σ l1 0 15).bind fun r2 =>
  (aI σ r2 l2).bind fun v3 =>
  (gR σ l1 0 16).bind fun r4 =>
  (aI σ r4 l2).bind fun v5 =>
  f7_70 K22 l0 l1 l2 s0 (if (v3 - v5) > 0 then (v3 - v5) else 0) l2 r1 σ
set_option maxRecDepth 20000 in
set_option maxHeartbeats 1000000 in
theorem e7_39 (d : Nat) (K22 : Nat → Nat → Int32 → xM → Option xM) (hK22 : ∀ (l0 : Nat) (l1 : Nat) (l2 : Int32) (x3 : Value) (σ : xM) (y : xM), K22 l0 l1 l2 σ = some y → Rn (d + 1) 7 22 [.ref l0, .ref l1, .int l2, x3] [] σ (none, y)) (l0 : Nat) (l1 : Nat) (l2 : Int32) (s0 : Int32) (x3 : Value) (σ : xM) (y : xM) (h : f7_39 K22 l0 l1 l2 s0 σ = some y) : Rn (d + 1) 7 39 [.ref l0, .ref l1, .int l2, x3] [.int s0] σ (none, y) := by
  unfold f7_39 at h
  refine rn_steps 2 41 [.ref l0, .ref l1, .int l2, .int s0] [.ref l0] rfl ?_
  obtain ⟨r1, hr1, h⟩ := Option.bind_eq_some_iff.mp h
  refine rn_gR (c := 1) (f := 1) rfl rfl ⟨⟨rfl, rfl⟩, rfl⟩ hr1 ?_
  refine rn_steps 2 46 [.ref l0, .ref l1, .int l2, .int s0] [.int s0, .int l2, .ref r1] rfl ?_
  refine rn_br (c := s0 = 0) rfl rfl decide_eq_true_iff (fun hb => ?_) (fun hb => ?_)
  · rw [if_pos hb] at h
    refine rn_steps 1 70 [.ref l0, .ref l1, .int l2, .int s0] [.int 0, .int l2, .ref r1] rfl ?_
    exact e7_70 d _ hK22 _ _ _ _ _ _ _ _ _ h
  · rw [if_neg hb] at h
    refine rn_steps 2 51 [.ref l0, .ref l1, .int l2, .int s0] [.ref l1, .int 0, .int l2, .ref r1] rfl ?_
    obtain ⟨r2, hr2, h⟩ := Option.bind_eq_some_iff.mp h
    refine rn_gR (c := 0) (f := 15) rfl rfl ⟨⟨rfl, rfl⟩, rfl⟩ hr2 ?_
    refine rn_steps 1 55 [.ref l0, .ref l1, .int l2, .int s0] [.int l2, .ref r2, .int 0, .int l2, .ref r1] rfl ?_
    obtain ⟨v3, hv3, h⟩ := Option.bind_eq_some_iff.mp h
    refine rn_aI rfl hv3 ?_
    refine rn_steps 1 57 [.ref l0, .ref l1, .int l2, .int s0] [.ref l1, .int v3, .int 0, .int l2, .ref r1] rfl ?_
    obtain ⟨r4, hr4, h⟩ := Option.bind_eq_some_iff.mp h
    refine rn_gR (c := 0) (f := 16) rfl rfl ⟨⟨rfl, rfl⟩, rfl⟩ hr4 ?_
    refine rn_steps 1 61 [.ref l0, .ref l1, .int l2, .int s0] [.int l2, .ref r4, .int v3, .int 0, .int l2, .ref r1] rfl ?_
    obtain ⟨v5, hv5, h⟩ := Option.bind_eq_some_iff.mp h
    refine rn_aI rfl hv5 ?_
    refine rn_steps 3 70 [.ref l0, .ref l1, .int l2, .int s0] [.int (if (v3 - v5) > 0 then (v3 - v5) else 0), .int l2, .ref r1] rfl ?_
    exact e7_70 d _ hK22 _ _ _ _ _ _ _ _ _ h
noncomputable def f7_22 : Nat → Nat → Nat → Int32 → xM → Option xM
  | 0, _, _, _, _ => none
  | n + 1, l0, l1, l2, σ =>
    if l2 < 0 then
    f7_138 σ
    else
    (gI σ l1 0 5).bind fun v1 =>
    if v1 ≤ l2 then
    f7_39 (f7_22 n) l0 l1 l2 0 σ
    else
    f7_39 (f7_22 n) l0 l1 l2 1 σ
set_option maxRecDepth 20000 in
set_option maxHeartbeats 1000000 in
theorem e7_22 (d : Nat) : ∀ (n : Nat) (l0 : Nat) (l1 : Nat) (l2 : Int32) (x3 : Value) (σ : xM) (y : xM), f7_22 n l0 l1 l2 σ = some y → Rn (d + 1) 7 22 [.ref l0, .ref l1, .int l2, x3] [] σ (none, y) := by
  intro n
  induction n with
  | zero => intro l0 l1 l2 x3 σ y h; cases h
  | succ n ih =>
    intro l0 l1 l2 x3 σ y h
    unfold f7_22 at h
    refine rn_steps 1 23 [.ref l0, .ref l1, .int l2, x3] [.int l2] rfl ?_
    refine rn_br (c := l2 < 0) rfl rfl decide_eq_true_iff (fun hb => ?_) (fun hb => ?_)
    · rw [if_pos hb] at h
      refine rn_steps 0 138 [.ref l0, .ref l1, .int l2, x3] [] rfl ?_
      exact e7_138 d _ _ _ _ _ _ h
    · rw [if_neg hb] at h
      refine rn_steps 2 28 [.ref l0, .ref l1, .int l2, x3] [.ref l1, .int l2] rfl ?_
      obtain ⟨v1, hv1, h⟩ := Option.bind_eq_some_iff.mp h
      refine rn_gI (c := 0) (f := 5) rfl rfl ⟨⟨rfl, rfl⟩, Or.inl rfl⟩ hv1 ?_
      refine rn_steps 0 31 [.ref l0, .ref l1, .int l2, x3] [.int v1, .int l2] rfl ?_
      refine rn_br (c := v1 ≤ l2) rfl rfl decide_eq_true_iff (fun hb => ?_) (fun hb => ?_)
      · rw [if_pos hb] at h
        refine rn_steps 1 39 [.ref l0, .ref l1, .int l2, x3] [.int 0] rfl ?_
        exact e7_39 d _ ih _ _ _ _ _ _ _ h
      · rw [if_neg hb] at h
        refine rn_steps 2 39 [.ref l0, .ref l1, .int l2, x3] [.int 1] rfl ?_
        exact e7_39 d _ ih _ _ _ _ _ _ _ h
/-- LastAsked$Fits.open(LLastAsked$City;)V -/
noncomputable def f7 (l0 : Nat) (l1 : Nat) (σ : xM) : Option xM :=
  (pI σ l0 1 0 1).bind fun σ1 =>
  (gR σ1 l1 0 12).bind fun r2 =>
  (gR σ1 l0 1 4).bind fun r3 =>
  (cp σ1 r2 0 r3 0 36).bind fun σ4 =>
  f7_22 1100 l0 l1 2 σ4
set_option maxRecDepth 20000 in
set_option maxHeartbeats 1000000 in
theorem e7 (d : Nat) {l0 : Nat} {l1 : Nat} {σ : xM} {y : xM} (h : f7 l0 l1 σ = some y) : Rn (d + 1) 7 0 [.ref l0, .ref l1, .retAddr 0, .retAddr 0] [] σ (none, y) := by
  unfold f7 at h
  refine rn_steps 2 2 [.ref l0, .ref l1, .retAddr 0, .retAddr 0] [.int 1, .ref l0] rfl ?_
  obtain ⟨σ1, hσ1, h⟩ := Option.bind_eq_some_iff.mp h
  refine rn_pI (c := 1) (f := 0) rfl rfl ⟨⟨rfl, rfl⟩, rfl⟩ hσ1 ?_
  refine rn_steps 1 6 [.ref l0, .ref l1, .retAddr 0, .retAddr 0] [.ref l1] rfl ?_
  obtain ⟨r2, hr2, h⟩ := Option.bind_eq_some_iff.mp h
  refine rn_gR (c := 0) (f := 12) rfl rfl ⟨⟨rfl, rfl⟩, rfl⟩ hr2 ?_
  refine rn_steps 2 11 [.ref l0, .ref l1, .retAddr 0, .retAddr 0] [.ref l0, .int 0, .ref r2] rfl ?_
  obtain ⟨r3, hr3, h⟩ := Option.bind_eq_some_iff.mp h
  refine rn_gR (c := 1) (f := 4) rfl rfl ⟨⟨rfl, rfl⟩, rfl⟩ hr3 ?_
  refine rn_steps 2 17 [.ref l0, .ref l1, .retAddr 0, .retAddr 0] [.int 36, .int 0, .ref r3, .int 0, .ref r2] rfl ?_
  obtain ⟨σ4, hσ4, h⟩ := Option.bind_eq_some_iff.mp h
  refine rn_cp rfl rfl hσ4 ?_
  refine rn_steps 2 22 [.ref l0, .ref l1, .int 2, .retAddr 0] [] rfl ?_
  exact e7_22 d 1100 _ _ _ _ _ _ h
noncomputable def f8_27 (σ : xM) : Option (Int32 × xM) :=
  some ((-1), σ)
set_option maxRecDepth 20000 in
set_option maxHeartbeats 1000000 in
theorem e8_27 (d : Nat) (x0 x1 x2 : Value) (σ : xM) (y : Int32 × xM) (h : f8_27 σ = some y) : Rn (d + 0) 8 27 [x0, x1, x2] [] σ (some (.int y.1), y.2) := by
  unfold f8_27 at h
  refine rn_steps 1 28 [x0, x1, x2] [.int (-1)] rfl ?_
  cases h
  exact rn_ret rfl rfl rfl
/-- LastAsked$Fits.hourBy(II)I -/
noncomputable def f8 (l0 : Nat) (l1 : Int32) (l2 : Int32) (σ : xM) : Option (Int32 × xM) :=
  if l2 < 0 then
  f8_27 σ
  else
  if 3 ≤ l2 then
  f8_27 σ
  else
  (gR σ l0 1 3).bind fun r1 =>
  (aI σ r1 l2).bind fun v2 =>
  if v2 ≤ 0 then
  f8_27 σ
  else
  (gR σ l0 1 2).bind fun r3 =>
  (aI σ r3 l2).bind fun v4 =>
  if 0 < v4 then
  (gR σ l0 1 1).bind fun r5 =>
  (aI σ r5 l2).bind fun v6 =>
  (gR σ l0 1 3).bind fun r7 =>
  (aI σ r7 l2).bind fun v8 =>
  (dI l1 v8).bind fun v9 =>
  (gR σ l0 1 2).bind fun r10 =>
  (aI σ r10 l2).bind fun v11 =>
  (rI v9 v11).bind fun v12 =>
  some ((v6 + v12), σ)
  else
  f8_27 σ
set_option maxRecDepth 20000 in
set_option maxHeartbeats 1000000 in
theorem e8 (d : Nat) {l0 : Nat} {l1 : Int32} {l2 : Int32} {σ : xM} {y : Int32 × xM} (h : f8 l0 l1 l2 σ = some y) : Rn (d + 0) 8 0 [.ref l0, .int l1, .int l2] [] σ (some (.int y.1), y.2) := by
  unfold f8 at h
  refine rn_steps 1 1 [.ref l0, .int l1, .int l2] [.int l2] rfl ?_
  refine rn_br (c := l2 < 0) rfl rfl decide_eq_true_iff (fun hb => ?_) (fun hb => ?_)
  · rw [if_pos hb] at h
    refine rn_steps 0 27 [.ref l0, .int l1, .int l2] [] rfl ?_
    exact e8_27 d _ _ _ _ _ h
  · rw [if_neg hb] at h
    refine rn_steps 2 6 [.ref l0, .int l1, .int l2] [.int 3, .int l2] rfl ?_
    refine rn_br (c := 3 ≤ l2) rfl rfl decide_eq_true_iff (fun hb => ?_) (fun hb => ?_)
    · rw [if_pos hb] at h
      refine rn_steps 0 27 [.ref l0, .int l1, .int l2] [] rfl ?_
      exact e8_27 d _ _ _ _ _ h
    · rw [if_neg hb] at h
      refine rn_steps 1 10 [.ref l0, .int l1, .int l2] [.ref l0] rfl ?_
      obtain ⟨r1, hr1, h⟩ := Option.bind_eq_some_iff.mp h
      refine rn_gR (c := 1) (f := 3) rfl rfl ⟨⟨rfl, rfl⟩, rfl⟩ hr1 ?_
      refine rn_steps 1 14 [.ref l0, .int l1, .int l2] [.int l2, .ref r1] rfl ?_
      obtain ⟨v2, hv2, h⟩ := Option.bind_eq_some_iff.mp h
      refine rn_aI rfl hv2 ?_
      refine rn_steps 0 15 [.ref l0, .int l1, .int l2] [.int v2] rfl ?_
      refine rn_br (c := v2 ≤ 0) rfl rfl decide_eq_true_iff (fun hb => ?_) (fun hb => ?_)
      · rw [if_pos hb] at h
        refine rn_steps 0 27 [.ref l0, .int l1, .int l2] [] rfl ?_
        exact e8_27 d _ _ _ _ _ h
      · rw [if_neg hb] at h
        refine rn_steps 1 19 [.ref l0, .int l1, .int l2] [.ref l0] rfl ?_
        obtain ⟨r3, hr3, h⟩ := Option.bind_eq_some_iff.mp h
        refine rn_gR (c := 1) (f := 2) rfl rfl ⟨⟨rfl, rfl⟩, rfl⟩ hr3 ?_
        refine rn_steps 1 23 [.ref l0, .int l1, .int l2] [.int l2, .ref r3] rfl ?_
        obtain ⟨v4, hv4, h⟩ := Option.bind_eq_some_iff.mp h
        refine rn_aI rfl hv4 ?_
        refine rn_steps 0 24 [.ref l0, .int l1, .int l2] [.int v4] rfl ?_
        refine rn_br (c := 0 < v4) rfl rfl decide_eq_true_iff (fun hb => ?_) (fun hb => ?_)
        · rw [if_pos hb] at h
          refine rn_steps 1 30 [.ref l0, .int l1, .int l2] [.ref l0] rfl ?_
          obtain ⟨r5, hr5, h⟩ := Option.bind_eq_some_iff.mp h
          refine rn_gR (c := 1) (f := 1) rfl rfl ⟨⟨rfl, rfl⟩, rfl⟩ hr5 ?_
          refine rn_steps 1 34 [.ref l0, .int l1, .int l2] [.int l2, .ref r5] rfl ?_
          obtain ⟨v6, hv6, h⟩ := Option.bind_eq_some_iff.mp h
          refine rn_aI rfl hv6 ?_
          refine rn_steps 2 37 [.ref l0, .int l1, .int l2] [.ref l0, .int l1, .int v6] rfl ?_
          obtain ⟨r7, hr7, h⟩ := Option.bind_eq_some_iff.mp h
          refine rn_gR (c := 1) (f := 3) rfl rfl ⟨⟨rfl, rfl⟩, rfl⟩ hr7 ?_
          refine rn_steps 1 41 [.ref l0, .int l1, .int l2] [.int l2, .ref r7, .int l1, .int v6] rfl ?_
          obtain ⟨v8, hv8, h⟩ := Option.bind_eq_some_iff.mp h
          refine rn_aI rfl hv8 ?_
          refine rn_steps 0 42 [.ref l0, .int l1, .int l2] [.int v8, .int l1, .int v6] rfl ?_
          obtain ⟨v9, hv9, h⟩ := Option.bind_eq_some_iff.mp h
          refine rn_dI rfl hv9 ?_
          refine rn_steps 1 44 [.ref l0, .int l1, .int l2] [.ref l0, .int v9, .int v6] rfl ?_
          obtain ⟨r10, hr10, h⟩ := Option.bind_eq_some_iff.mp h
          refine rn_gR (c := 1) (f := 2) rfl rfl ⟨⟨rfl, rfl⟩, rfl⟩ hr10 ?_
          refine rn_steps 1 48 [.ref l0, .int l1, .int l2] [.int l2, .ref r10, .int v9, .int v6] rfl ?_
          obtain ⟨v11, hv11, h⟩ := Option.bind_eq_some_iff.mp h
          refine rn_aI rfl hv11 ?_
          refine rn_steps 0 49 [.ref l0, .int l1, .int l2] [.int v11, .int v9, .int v6] rfl ?_
          obtain ⟨v12, hv12, h⟩ := Option.bind_eq_some_iff.mp h
          refine rn_rI rfl hv12 ?_
          refine rn_steps 1 51 [.ref l0, .int l1, .int l2] [.int (v6 + v12)] rfl ?_
          cases h
          exact rn_ret rfl rfl rfl
        · rw [if_neg hb] at h
          refine rn_steps 0 27 [.ref l0, .int l1, .int l2] [] rfl ?_
          exact e8_27 d _ _ _ _ _ h
noncomputable def f58_64 (l3 : Int32) (σ : xM) : Option (Int32 × xM) :=
  some (l3, σ)
set_option maxRecDepth 20000 in
set_option maxHeartbeats 1000000 in
theorem e58_64 (d : Nat) (l3 : Int32) (x0 x1 x2 x4 x5 : Value) (σ : xM) (y : Int32 × xM) (h : f58_64 l3 σ = some y) : Rn (d + 1) 58 64 [x0, x1, x2, .int l3, x4, x5] [] σ (some (.int y.1), y.2) := by
  unfold f58_64 at h
  refine rn_steps 1 65 [x0, x1, x2, .int l3, x4, x5] [.int l3] rfl ?_
  cases h
  exact rn_ret rfl rfl rfl
noncomputable def f58_58 (K10 : Nat → Int32 → Int32 → Int32 → Int32 → Int32 → xM → Option (Int32 × xM)) (l0 : Nat) (l1 : Int32) (l2 : Int32) (l3 : Int32) (l4 : Int32) (l5 : Int32) (σ : xM) : Option (Int32 × xM) :=
  K10 l0 l1 l2 l3 l4 (l5 + 1) σ
set_option maxRecDepth 20000 in
set_option maxHeartbeats 1000000 in
theorem e58_58 (d : Nat) (K10 : Nat → Int32 → Int32 → Int32 → Int32 → Int32 → xM → Option (Int32 × xM)) (hK10 : ∀ (l0 : Nat) (l1 : Int32) (l2 : Int32) (l3 : Int32) (l4 : Int32) (l5 : Int32) (σ : xM) (y : Int32 × xM), K10 l0 l1 l2 l3 l4 l5 σ = some y → Rn (d + 1) 58 10 [.ref l0, .int l1, .int l2, .int l3, .int l4, .int l5] [] σ (some (.int y.1), y.2)) (l0 : Nat) (l1 : Int32) (l2 : Int32) (l3 : Int32) (l4 : Int32) (l5 : Int32) (σ : xM) (y : Int32 × xM) (h : f58_58 K10 l0 l1 l2 l3 l4 l5 σ = some y) : Rn (d + 1) 58 58 [.ref l0, .int l1, .int l2, .int l3, .int l4, .int l5] [] σ (some (.int y.1), y.2) := by
  unfold f58_58 at h
  refine rn_steps 2 10 [.ref l0, .int l1, .int l2, .int l3, .int l4, .int (l5 + 1)] [] rfl ?_
  exact hK10 _ _ _ _ _ _ _ _ h
noncomputable def f58_10 : Nat → Nat → Int32 → Int32 → Int32 → Int32 → Int32 → xM → Option (Int32 × xM)
  | 0, _, _, _, _, _, _, _ => none
  | n + 1, l0, l1, l2, l3, l4, l5, σ =>
    if 6 ≤ l5 then
    f58_64 l3 σ
    else
    if l5 = l2 then
    f58_58 (f58_10 n) l0 l1 l2 l3 l4 l5 σ
    else
    (f124 l1 l5 σ).bind fun y1 =>
    if y1.1 = 0 then
    f58_58 (f58_10 n) l0 l1 l2 l3 l4 l5 y1.2
    else
    (f125 l5 l2 y1.2).bind fun y2 =>
    (aI y2.2 l0 y2.1).bind fun v3 =>
    if v3 ≤ l4 then
    f58_58 (f58_10 n) l0 l1 l2 l3 l4 l5 y2.2
    else
    (f125 l5 l2 y2.2).bind fun y4 =>
    (aI y4.2 l0 y4.1).bind fun v5 =>
    f58_58 (f58_10 n) l0 l1 l2 l5 v5 l5 y4.2
set_option maxRecDepth 20000 in
set_option maxHeartbeats 1000000 in
theorem e58_10 (d : Nat) : ∀ (n : Nat) (l0 : Nat) (l1 : Int32) (l2 : Int32) (l3 : Int32) (l4 : Int32) (l5 : Int32) (σ : xM) (y : Int32 × xM), f58_10 n l0 l1 l2 l3 l4 l5 σ = some y → Rn (d + 1) 58 10 [.ref l0, .int l1, .int l2, .int l3, .int l4, .int l5] [] σ (some (.int y.1), y.2) := by
  intro n
  induction n with
  | zero => intro l0 l1 l2 l3 l4 l5 σ y h; cases h
  | succ n ih =>
    intro l0 l1 l2 l3 l4 l5 σ y h
    unfold f58_10 at h
    refine rn_steps 2 14 [.ref l0, .int l1, .int l2, .int l3, .int l4, .int l5] [.int 6, .int l5] rfl ?_
    refine rn_br (c := 6 ≤ l5) rfl rfl decide_eq_true_iff (fun hb => ?_) (fun hb => ?_)
    · rw [if_pos hb] at h
      refine rn_steps 0 64 [.ref l0, .int l1, .int l2, .int l3, .int l4, .int l5] [] rfl ?_
      exact e58_64 d _ _ _ _ _ _ _ _ h
    · rw [if_neg hb] at h
      refine rn_steps 2 20 [.ref l0, .int l1, .int l2, .int l3, .int l4, .int l5] [.int l2, .int l5] rfl ?_
      refine rn_br (c := l5 = l2) rfl rfl decide_eq_true_iff (fun hb => ?_) (fun hb => ?_)
      · rw [if_pos hb] at h
        refine rn_steps 0 58 [.ref l0, .int l1, .int l2, .int l3, .int l4, .int l5] [] rfl ?_
        exact e58_58 d _ ih _ _ _ _ _ _ _ _ h
      · rw [if_neg hb] at h
        refine rn_steps 2 26 [.ref l0, .int l1, .int l2, .int l3, .int l4, .int l5] [.int l5, .int l1] rfl ?_
        obtain ⟨y1, hy1, h⟩ := Option.bind_eq_some_iff.mp h
        refine rn_callS [.int l1, .int l5] rfl rfl rfl ⟨rfl, rfl, rfl⟩ rfl rfl (e124 d hy1) ?_
        refine rn_steps 0 29 [.ref l0, .int l1, .int l2, .int l3, .int l4, .int l5] [.int y1.1] rfl ?_
        refine rn_br (c := y1.1 = 0) rfl rfl decide_eq_true_iff (fun hb => ?_) (fun hb => ?_)
        · rw [if_pos hb] at h
          refine rn_steps 0 58 [.ref l0, .int l1, .int l2, .int l3, .int l4, .int l5] [] rfl ?_
          exact e58_58 d _ ih _ _ _ _ _ _ _ _ h
        · rw [if_neg hb] at h
          refine rn_steps 3 36 [.ref l0, .int l1, .int l2, .int l3, .int l4, .int l5] [.int l2, .int l5, .ref l0] rfl ?_
          obtain ⟨y2, hy2, h⟩ := Option.bind_eq_some_iff.mp h
          refine rn_callS [.int l5, .int l2] rfl rfl rfl ⟨rfl, rfl, rfl⟩ rfl rfl (e125 d hy2) ?_
          refine rn_steps 0 39 [.ref l0, .int l1, .int l2, .int l3, .int l4, .int l5] [.int y2.1, .ref l0] rfl ?_
          obtain ⟨v3, hv3, h⟩ := Option.bind_eq_some_iff.mp h
          refine rn_aI rfl hv3 ?_
          refine rn_steps 1 42 [.ref l0, .int l1, .int l2, .int l3, .int l4, .int l5] [.int l4, .int v3] rfl ?_
          refine rn_br (c := v3 ≤ l4) rfl rfl decide_eq_true_iff (fun hb => ?_) (fun hb => ?_)
          · rw [if_pos hb] at h
            refine rn_steps 0 58 [.ref l0, .int l1, .int l2, .int l3, .int l4, .int l5] [] rfl ?_
            exact e58_58 d _ ih _ _ _ _ _ _ _ _ h
          · rw [if_neg hb] at h
            refine rn_steps 5 52 [.ref l0, .int l1, .int l2, .int l5, .int l4, .int l5] [.int l2, .int l5, .ref l0] rfl ?_
            obtain ⟨y4, hy4, h⟩ := Option.bind_eq_some_iff.mp h
            refine rn_callS [.int l5, .int l2] rfl rfl rfl ⟨rfl, rfl, rfl⟩ rfl rfl (e125 d hy4) ?_
            refine rn_steps 0 55 [.ref l0, .int l1, .int l2, .int l5, .int l4, .int l5] [.int y4.1, .ref l0] rfl ?_
            obtain ⟨v5, hv5, h⟩ := Option.bind_eq_some_iff.mp h
            refine rn_aI rfl hv5 ?_
            refine rn_steps 1 58 [.ref l0, .int l1, .int l2, .int l5, .int v5, .int l5] [] rfl ?_
            exact e58_58 d _ ih _ _ _ _ _ _ _ _ h
/-- LastAsked$Wills.latest([III)I -/
noncomputable def f58 (l0 : Nat) (l1 : Int32) (l2 : Int32) (σ : xM) : Option (Int32 × xM) :=
  f58_10 1100 l0 l1 l2 (-2) (-2) 0 σ
set_option maxRecDepth 20000 in
set_option maxHeartbeats 1000000 in
theorem e58 (d : Nat) {l0 : Nat} {l1 : Int32} {l2 : Int32} {σ : xM} {y : Int32 × xM} (h : f58 l0 l1 l2 σ = some y) : Rn (d + 1) 58 0 [.ref l0, .int l1, .int l2, .retAddr 0, .retAddr 0, .retAddr 0] [] σ (some (.int y.1), y.2) := by
  unfold f58 at h
  refine rn_steps 6 10 [.ref l0, .int l1, .int l2, .int (-2), .int (-2), .int 0] [] rfl ?_
  exact e58_10 d 1100 _ _ _ _ _ _ _ _ h
noncomputable def f9_81 (σ : xM) : Option (Int32 × xM) :=
  rZ 1 σ
set_option maxRecDepth 20000 in
set_option maxHeartbeats 1000000 in
theorem e9_81 (d : Nat) (x0 x1 x2 x3 x4 : Value) (σ : xM) (y : Int32 × xM) (h : f9_81 σ = some y) : Rn (d + 2) 9 81 [x0, x1, x2, x3, x4] [] σ (some (.int y.1), y.2) := by
  unfold f9_81 at h
  refine rn_steps 1 82 [x0, x1, x2, x3, x4] [.int 1] rfl ?_
  exact rn_retZ rfl rfl h
noncomputable def f9_75 (K35 : Nat → Nat → Int32 → xM → Option (Int32 × xM)) (l0 : Nat) (l1 : Nat) (l3 : Int32) (σ : xM) : Option (Int32 × xM) :=
  K35 l0 l1 (l3 + 1) σ
set_option maxRecDepth 20000 in
set_option maxHeartbeats 1000000 in
theorem e9_75 (d : Nat) (K35 : Nat → Nat → Int32 → xM → Option (Int32 × xM)) (hK35 : ∀ (l0 : Nat) (l1 : Nat) (l3 : Int32) (x2 x4 : Value) (σ : xM) (y : Int32 × xM), K35 l0 l1 l3 σ = some y → Rn (d + 2) 9 35 [.ref l0, .ref l1, x2, .int l3, x4] [] σ (some (.int y.1), y.2)) (l0 : Nat) (l1 : Nat) (l3 : Int32) (x2 x4 : Value) (σ : xM) (y : Int32 × xM) (h : f9_75 K35 l0 l1 l3 σ = some y) : Rn (d + 2) 9 75 [.ref l0, .ref l1, x2, .int l3, x4] [] σ (some (.int y.1), y.2) := by
  unfold f9_75 at h
  refine rn_steps 2 35 [.ref l0, .ref l1, x2, .int (l3 + 1), x4] [] rfl ?_
  exact hK35 _ _ _ _ _ _ _ h
noncomputable def f9_35 : Nat → Nat → Nat → Int32 → xM → Option (Int32 × xM)
  | 0, _, _, _, _ => none
  | n + 1, l0, l1, l3, σ =>
    if 6 ≤ l3 then
    f9_81 σ
    else
    (gR σ l1 0 11).bind fun r1 =>
    (aI σ r1 l3).bind fun v2 =>
    if v2 = (-3) then
    f9_75 (f9_35 n) l0 l1 l3 σ
    else
    (gR σ l0 1 4).bind fun r3 =>
    (cO σ l1 0).bind fun u6 =>
    (f3 l1 σ).bind fun y4 =>
    (f58 r3 y4.1 l3 y4.2).bind fun y5 =>
    if v2 = y5.1 then
    f9_75 (f9_35 n) l0 l1 l3 y5.2
    else
    rZ 0 y5.2
set_option maxRecDepth 20000 in
set_option maxHeartbeats 1000000 in
theorem e9_35 (d : Nat) : ∀ (n : Nat) (l0 : Nat) (l1 : Nat) (l3 : Int32) (x2 x4 : Value) (σ : xM) (y : Int32 × xM), f9_35 n l0 l1 l3 σ = some y → Rn (d + 2) 9 35 [.ref l0, .ref l1, x2, .int l3, x4] [] σ (some (.int y.1), y.2) := by
  intro n
  induction n with
  | zero => intro l0 l1 l3 x2 x4 σ y h; cases h
  | succ n ih =>
    intro l0 l1 l3 x2 x4 σ y h
    unfold f9_35 at h
    refine rn_steps 2 38 [.ref l0, .ref l1, x2, .int l3, x4] [.int 6, .int l3] rfl ?_
    refine rn_br (c := 6 ≤ l3) rfl rfl decide_eq_true_iff (fun hb => ?_) (fun hb => ?_)
    · rw [if_pos hb] at h
      refine rn_steps 0 81 [.ref l0, .ref l1, x2, .int l3, x4] [] rfl ?_
      exact e9_81 d _ _ _ _ _ _ _ h
    · rw [if_neg hb] at h
      refine rn_steps 1 42 [.ref l0, .ref l1, x2, .int l3, x4] [.ref l1] rfl ?_
      obtain ⟨r1, hr1, h⟩ := Option.bind_eq_some_iff.mp h
      refine rn_gR (c := 0) (f := 11) rfl rfl ⟨⟨rfl, rfl⟩, rfl⟩ hr1 ?_
      refine rn_steps 1 46 [.ref l0, .ref l1, x2, .int l3, x4] [.int l3, .ref r1] rfl ?_
      obtain ⟨v2, hv2, h⟩ := Option.bind_eq_some_iff.mp h
      refine rn_aI rfl hv2 ?_
      refine rn_steps 3 53 [.ref l0, .ref l1, x2, .int l3, .int v2] [.int (-3), .int v2] rfl ?_
      refine rn_br (c := v2 = (-3)) rfl rfl decide_eq_true_iff (fun hb => ?_) (fun hb => ?_)
      · rw [if_pos hb] at h
        refine rn_steps 0 75 [.ref l0, .ref l1, x2, .int l3, .int v2] [] rfl ?_
        exact e9_75 d _ ih _ _ _ _ _ _ _ h
      · rw [if_neg hb] at h
        refine rn_steps 2 59 [.ref l0, .ref l1, x2, .int l3, .int v2] [.ref l0, .int v2] rfl ?_
        obtain ⟨r3, hr3, h⟩ := Option.bind_eq_some_iff.mp h
        refine rn_gR (c := 1) (f := 4) rfl rfl ⟨⟨rfl, rfl⟩, rfl⟩ hr3 ?_
        refine rn_steps 1 63 [.ref l0, .ref l1, x2, .int l3, .int v2] [.ref l1, .ref r3, .int v2] rfl ?_
        obtain ⟨u6, hu6, h⟩ := Option.bind_eq_some_iff.mp h
        obtain ⟨y4, hy4, h⟩ := Option.bind_eq_some_iff.mp h
        refine rn_callV [] rfl rfl ⟨rfl, rfl⟩ hu6 rfl rfl (e3 (d + 1) hy4) ?_
        refine rn_steps 1 67 [.ref l0, .ref l1, x2, .int l3, .int v2] [.int l3, .int y4.1, .ref r3, .int v2] rfl ?_
        obtain ⟨y5, hy5, h⟩ := Option.bind_eq_some_iff.mp h
        refine rn_callS [.ref r3, .int y4.1, .int l3] rfl rfl rfl ⟨rfl, rfl, rfl⟩ rfl rfl (e58 d hy5) ?_
        refine rn_steps 0 70 [.ref l0, .ref l1, x2, .int l3, .int v2] [.int y5.1, .int v2] rfl ?_
        refine rn_br (c := v2 = y5.1) rfl rfl decide_eq_true_iff (fun hb => ?_) (fun hb => ?_)
        · rw [if_pos hb] at h
          refine rn_steps 0 75 [.ref l0, .ref l1, x2, .int l3, .int v2] [] rfl ?_
          exact e9_75 d _ ih _ _ _ _ _ _ _ h
        · rw [if_neg hb] at h
          refine rn_steps 1 74 [.ref l0, .ref l1, x2, .int l3, .int v2] [.int 0] rfl ?_
          exact rn_retZ rfl rfl h
noncomputable def f9_33 (l0 : Nat) (l1 : Nat) (σ : xM) : Option (Int32 × xM) :=
  f9_35 1100 l0 l1 0 σ
set_option maxRecDepth 20000 in
set_option maxHeartbeats 1000000 in
theorem e9_33 (d : Nat) (l0 : Nat) (l1 : Nat) (x2 x3 x4 : Value) (σ : xM) (y : Int32 × xM) (h : f9_33 l0 l1 σ = some y) : Rn (d + 2) 9 33 [.ref l0, .ref l1, x2, x3, x4] [] σ (some (.int y.1), y.2) := by
  unfold f9_33 at h
  refine rn_steps 2 35 [.ref l0, .ref l1, x2, .int 0, x4] [] rfl ?_
  exact e9_35 d 1100 _ _ _ _ _ _ _ h
noncomputable def f9_2 : Nat → Nat → Nat → Int32 → Int32 → xM → Option (Int32 × xM)
  | 0, _, _, _, _, _ => none
  | n + 1, l0, l1, l2, l3, σ =>
    (gI σ l1 0 5).bind fun v1 =>
    if v1 ≤ l3 then
    f9_33 l0 l1 σ
    else
    (gR σ l0 1 4).bind fun r2 =>
    (gR σ l1 0 14).bind fun r3 =>
    (aI σ r3 l3).bind fun v4 =>
    (cO σ l0 1).bind fun u7 =>
    (f8 l0 l2 l3 σ).bind fun y5 =>
    (tI y5.2 r2 v4 y5.1).bind fun σ6 =>
    (f9_2 n) l0 l1 l2 (l3 + 1) σ6
set_option maxRecDepth 20000 in
set_option maxHeartbeats 1000000 in
theorem e9_2 (d : Nat) : ∀ (n : Nat) (l0 : Nat) (l1 : Nat) (l2 : Int32) (l3 : Int32) (x4 : Value) (σ : xM) (y : Int32 × xM), f9_2 n l0 l1 l2 l3 σ = some y → Rn (d + 2) 9 2 [.ref l0, .ref l1, .int l2, .int l3, x4] [] σ (some (.int y.1), y.2) := by
  intro n
  induction n with
  | zero => intro l0 l1 l2 l3 x4 σ y h; cases h
  | succ n ih =>
    intro l0 l1 l2 l3 x4 σ y h
    unfold f9_2 at h
    refine rn_steps 2 4 [.ref l0, .ref l1, .int l2, .int l3, x4] [.ref l1, .int l3] rfl ?_
    obtain ⟨v1, hv1, h⟩ := Option.bind_eq_some_iff.mp h
    refine rn_gI (c := 0) (f := 5) rfl rfl ⟨⟨rfl, rfl⟩, Or.inl rfl⟩ hv1 ?_
    refine rn_steps 0 7 [.ref l0, .ref l1, .int l2, .int l3, x4] [.int v1, .int l3] rfl ?_
    refine rn_br (c := v1 ≤ l3) rfl rfl decide_eq_true_iff (fun hb => ?_) (fun hb => ?_)
    · rw [if_pos hb] at h
      refine rn_steps 0 33 [.ref l0, .ref l1, .int l2, .int l3, x4] [] rfl ?_
      exact e9_33 d _ _ _ _ _ _ _ h
    · rw [if_neg hb] at h
      refine rn_steps 1 11 [.ref l0, .ref l1, .int l2, .int l3, x4] [.ref l0] rfl ?_
      obtain ⟨r2, hr2, h⟩ := Option.bind_eq_some_iff.mp h
      refine rn_gR (c := 1) (f := 4) rfl rfl ⟨⟨rfl, rfl⟩, rfl⟩ hr2 ?_
      refine rn_steps 1 15 [.ref l0, .ref l1, .int l2, .int l3, x4] [.ref l1, .ref r2] rfl ?_
      obtain ⟨r3, hr3, h⟩ := Option.bind_eq_some_iff.mp h
      refine rn_gR (c := 0) (f := 14) rfl rfl ⟨⟨rfl, rfl⟩, rfl⟩ hr3 ?_
      refine rn_steps 1 19 [.ref l0, .ref l1, .int l2, .int l3, x4] [.int l3, .ref r3, .ref r2] rfl ?_
      obtain ⟨v4, hv4, h⟩ := Option.bind_eq_some_iff.mp h
      refine rn_aI rfl hv4 ?_
      refine rn_steps 3 23 [.ref l0, .ref l1, .int l2, .int l3, x4] [.int l3, .int l2, .ref l0, .int v4, .ref r2] rfl ?_
      obtain ⟨u7, hu7, h⟩ := Option.bind_eq_some_iff.mp h
      obtain ⟨y5, hy5, h⟩ := Option.bind_eq_some_iff.mp h
      refine rn_callV [.int l2, .int l3] rfl rfl ⟨rfl, rfl⟩ hu7 rfl rfl (e8 (d + 1) hy5) ?_
      refine rn_steps 0 26 [.ref l0, .ref l1, .int l2, .int l3, x4] [.int y5.1, .int v4, .ref r2] rfl ?_
      obtain ⟨σ6, hσ6, h⟩ := Option.bind_eq_some_iff.mp h
      refine rn_tI rfl hσ6 ?_
      refine rn_steps 2 2 [.ref l0, .ref l1, .int l2, .int (l3 + 1), x4] [] rfl ?_
      exact ih _ _ _ _ _ _ _ h
/-- LastAsked$Fits.holds(LLastAsked$City;I)Z -/
noncomputable def f9 (l0 : Nat) (l1 : Nat) (l2 : Int32) (σ : xM) : Option (Int32 × xM) :=
  f9_2 1100 l0 l1 l2 0 σ
set_option maxRecDepth 20000 in
set_option maxHeartbeats 1000000 in
theorem e9 (d : Nat) {l0 : Nat} {l1 : Nat} {l2 : Int32} {σ : xM} {y : Int32 × xM} (h : f9 l0 l1 l2 σ = some y) : Rn (d + 2) 9 0 [.ref l0, .ref l1, .int l2, .retAddr 0, .retAddr 0] [] σ (some (.int y.1), y.2) := by
  unfold f9 at h
  refine rn_steps 2 2 [.ref l0, .ref l1, .int l2, .int 0, .retAddr 0] [] rfl ?_
  exact e9_2 d 1100 _ _ _ _ _ _ _ h
noncomputable def f10_35 (l2 : Int32) (σ : xM) : Option (Int32 × xM) :=
  some (l2, σ)
set_option maxRecDepth 20000 in
set_option maxHeartbeats 1000000 in
theorem e10_35 (d : Nat) (l2 : Int32) (x0 x1 x3 : Value) (σ : xM) (y : Int32 × xM) (h : f10_35 l2 σ = some y) : Rn (d + 3) 10 35 [x0, x1, .int l2, x3] [] σ (some (.int y.1), y.2) := by
  unfold f10_35 at h
  refine rn_steps 1 36 [x0, x1, .int l2, x3] [.int l2] rfl ?_
  cases h
  exact rn_ret rfl rfl rfl
noncomputable def f10_29 (K9 : Nat → Nat → Int32 → Int32 → xM → Option (Int32 × xM)) (l0 : Nat) (l1 : Nat) (l2 : Int32) (l3 : Int32) (σ : xM) : Option (Int32 × xM) :=
  K9 l0 l1 l2 (l3 + 1) σ
set_option maxRecDepth 20000 in
set_option maxHeartbeats 1000000 in
theorem e10_29 (d : Nat) (K9 : Nat → Nat → Int32 → Int32 → xM → Option (Int32 × xM)) (hK9 : ∀ (l0 : Nat) (l1 : Nat) (l2 : Int32) (l3 : Int32) (σ : xM) (y : Int32 × xM), K9 l0 l1 l2 l3 σ = some y → Rn (d + 3) 10 9 [.ref l0, .ref l1, .int l2, .int l3] [] σ (some (.int y.1), y.2)) (l0 : Nat) (l1 : Nat) (l2 : Int32) (l3 : Int32) (σ : xM) (y : Int32 × xM) (h : f10_29 K9 l0 l1 l2 l3 σ = some y) : Rn (d + 3) 10 29 [.ref l0, .ref l1, .int l2, .int l3] [] σ (some (.int y.1), y.2) := by
  unfold f10_29 at h
  refine rn_steps 2 9 [.ref l0, .ref l1, .int l2, .int (l3 + 1)] [] rfl ?_
  exact hK9 _ _ _ _ _ _ h
noncomputable def f10_9 : Nat → Nat → Nat → Int32 → Int32 → xM → Option (Int32 × xM)
  | 0, _, _, _, _, _ => none
  | n + 1, l0, l1, l2, l3, σ =>
    (gI σ l0 1 0).bind fun v1 =>
    if v1 ≤ l3 then
    f10_35 l2 σ
    else
    (cO σ l0 1).bind fun u3 =>
    (f9 l0 l1 l3 σ).bind fun y2 =>
    if y2.1 = 0 then
    f10_29 (f10_9 n) l0 l1 l2 l3 y2.2
    else
    f10_29 (f10_9 n) l0 l1 (l2 + 1) l3 y2.2
set_option maxRecDepth 20000 in
set_option maxHeartbeats 1000000 in
theorem e10_9 (d : Nat) : ∀ (n : Nat) (l0 : Nat) (l1 : Nat) (l2 : Int32) (l3 : Int32) (σ : xM) (y : Int32 × xM), f10_9 n l0 l1 l2 l3 σ = some y → Rn (d + 3) 10 9 [.ref l0, .ref l1, .int l2, .int l3] [] σ (some (.int y.1), y.2) := by
  intro n
  induction n with
  | zero => intro l0 l1 l2 l3 σ y h; cases h
  | succ n ih =>
    intro l0 l1 l2 l3 σ y h
    unfold f10_9 at h
    refine rn_steps 2 11 [.ref l0, .ref l1, .int l2, .int l3] [.ref l0, .int l3] rfl ?_
    obtain ⟨v1, hv1, h⟩ := Option.bind_eq_some_iff.mp h
    refine rn_gI (c := 1) (f := 0) rfl rfl ⟨⟨rfl, rfl⟩, Or.inl rfl⟩ hv1 ?_
    refine rn_steps 0 14 [.ref l0, .ref l1, .int l2, .int l3] [.int v1, .int l3] rfl ?_
    refine rn_br (c := v1 ≤ l3) rfl rfl decide_eq_true_iff (fun hb => ?_) (fun hb => ?_)
    · rw [if_pos hb] at h
      refine rn_steps 0 35 [.ref l0, .ref l1, .int l2, .int l3] [] rfl ?_
      exact e10_35 d _ _ _ _ _ _ h
    · rw [if_neg hb] at h
      refine rn_steps 3 20 [.ref l0, .ref l1, .int l2, .int l3] [.int l3, .ref l1, .ref l0] rfl ?_
      obtain ⟨u3, hu3, h⟩ := Option.bind_eq_some_iff.mp h
      obtain ⟨y2, hy2, h⟩ := Option.bind_eq_some_iff.mp h
      refine rn_callV [.ref l1, .int l3] rfl rfl ⟨rfl, rfl⟩ hu3 rfl rfl (e9 d hy2) ?_
      refine rn_steps 0 23 [.ref l0, .ref l1, .int l2, .int l3] [.int y2.1] rfl ?_
      refine rn_br (c := y2.1 = 0) rfl rfl decide_eq_true_iff (fun hb => ?_) (fun hb => ?_)
      · rw [if_pos hb] at h
        refine rn_steps 0 29 [.ref l0, .ref l1, .int l2, .int l3] [] rfl ?_
        exact e10_29 d _ ih _ _ _ _ _ _ h
      · rw [if_neg hb] at h
        refine rn_steps 1 29 [.ref l0, .ref l1, .int (l2 + 1), .int l3] [] rfl ?_
        exact e10_29 d _ ih _ _ _ _ _ _ h
/-- LastAsked$Fits.countAll(LLastAsked$City;)I -/
noncomputable def f10 (l0 : Nat) (l1 : Nat) (σ : xM) : Option (Int32 × xM) :=
  (cO σ l0 1).bind fun u2 =>
  (f7 l0 l1 σ).bind fun y1 =>
  f10_9 1100 l0 l1 0 0 y1
set_option maxRecDepth 20000 in
set_option maxHeartbeats 1000000 in
theorem e10 (d : Nat) {l0 : Nat} {l1 : Nat} {σ : xM} {y : Int32 × xM} (h : f10 l0 l1 σ = some y) : Rn (d + 3) 10 0 [.ref l0, .ref l1, .retAddr 0, .retAddr 0] [] σ (some (.int y.1), y.2) := by
  unfold f10 at h
  refine rn_steps 2 2 [.ref l0, .ref l1, .retAddr 0, .retAddr 0] [.ref l1, .ref l0] rfl ?_
  obtain ⟨u2, hu2, h⟩ := Option.bind_eq_some_iff.mp h
  obtain ⟨y1, hy1, h⟩ := Option.bind_eq_some_iff.mp h
  refine rn_callV [.ref l1] rfl rfl ⟨rfl, rfl⟩ hu2 rfl rfl (e7 (d + 1) hy1) ?_
  refine rn_steps 4 9 [.ref l0, .ref l1, .int 0, .int 0] [] rfl ?_
  exact e10_9 d 1100 _ _ _ _ _ _ h
noncomputable def f11_45 (σ : xM) : Option (Int32 × xM) :=
  some ((-1), σ)
set_option maxRecDepth 20000 in
set_option maxHeartbeats 1000000 in
theorem e11_45 (d : Nat) (x0 x1 x2 x3 x4 : Value) (σ : xM) (y : Int32 × xM) (h : f11_45 σ = some y) : Rn (d + 3) 11 45 [x0, x1, x2, x3, x4] [] σ (some (.int y.1), y.2) := by
  unfold f11_45 at h
  refine rn_steps 1 46 [x0, x1, x2, x3, x4] [.int (-1)] rfl ?_
  cases h
  exact rn_ret rfl rfl rfl
noncomputable def f11_39 (K10 : Nat → Nat → Int32 → Int32 → xM → Option (Int32 × xM)) (l0 : Nat) (l1 : Nat) (l3 : Int32) (l4 : Int32) (σ : xM) : Option (Int32 × xM) :=
  K10 l0 l1 l3 (l4 + 1) σ
set_option maxRecDepth 20000 in
set_option maxHeartbeats 1000000 in
theorem e11_39 (d : Nat) (K10 : Nat → Nat → Int32 → Int32 → xM → Option (Int32 × xM)) (hK10 : ∀ (l0 : Nat) (l1 : Nat) (l3 : Int32) (l4 : Int32) (x2 : Value) (σ : xM) (y : Int32 × xM), K10 l0 l1 l3 l4 σ = some y → Rn (d + 3) 11 10 [.ref l0, .ref l1, x2, .int l3, .int l4] [] σ (some (.int y.1), y.2)) (l0 : Nat) (l1 : Nat) (l3 : Int32) (l4 : Int32) (x2 : Value) (σ : xM) (y : Int32 × xM) (h : f11_39 K10 l0 l1 l3 l4 σ = some y) : Rn (d + 3) 11 39 [.ref l0, .ref l1, x2, .int l3, .int l4] [] σ (some (.int y.1), y.2) := by
  unfold f11_39 at h
  refine rn_steps 2 10 [.ref l0, .ref l1, x2, .int l3, .int (l4 + 1)] [] rfl ?_
  exact hK10 _ _ _ _ _ _ _ h
noncomputable def f11_10 : Nat → Nat → Nat → Int32 → Int32 → xM → Option (Int32 × xM)
  | 0, _, _, _, _, _ => none
  | n + 1, l0, l1, l3, l4, σ =>
    (gI σ l0 1 0).bind fun v1 =>
    if v1 ≤ l4 then
    f11_45 σ
    else
    (cO σ l0 1).bind fun u3 =>
    (f9 l0 l1 l4 σ).bind fun y2 =>
    if y2.1 = 0 then
    f11_39 (f11_10 n) l0 l1 l3 l4 y2.2
    else
    if l3 = 0 then
    some (l4, y2.2)
    else
    f11_39 (f11_10 n) l0 l1 (l3 + (-1)) l4 y2.2
set_option maxRecDepth 20000 in
set_option maxHeartbeats 1000000 in
theorem e11_10 (d : Nat) : ∀ (n : Nat) (l0 : Nat) (l1 : Nat) (l3 : Int32) (l4 : Int32) (x2 : Value) (σ : xM) (y : Int32 × xM), f11_10 n l0 l1 l3 l4 σ = some y → Rn (d + 3) 11 10 [.ref l0, .ref l1, x2, .int l3, .int l4] [] σ (some (.int y.1), y.2) := by
  intro n
  induction n with
  | zero => intro l0 l1 l3 l4 x2 σ y h; cases h
  | succ n ih =>
    intro l0 l1 l3 l4 x2 σ y h
    unfold f11_10 at h
    refine rn_steps 2 13 [.ref l0, .ref l1, x2, .int l3, .int l4] [.ref l0, .int l4] rfl ?_
    obtain ⟨v1, hv1, h⟩ := Option.bind_eq_some_iff.mp h
    refine rn_gI (c := 1) (f := 0) rfl rfl ⟨⟨rfl, rfl⟩, Or.inl rfl⟩ hv1 ?_
    refine rn_steps 0 16 [.ref l0, .ref l1, x2, .int l3, .int l4] [.int v1, .int l4] rfl ?_
    refine rn_br (c := v1 ≤ l4) rfl rfl decide_eq_true_iff (fun hb => ?_) (fun hb => ?_)
    · rw [if_pos hb] at h
      refine rn_steps 0 45 [.ref l0, .ref l1, x2, .int l3, .int l4] [] rfl ?_
      exact e11_45 d _ _ _ _ _ _ _ h
    · rw [if_neg hb] at h
      refine rn_steps 3 23 [.ref l0, .ref l1, x2, .int l3, .int l4] [.int l4, .ref l1, .ref l0] rfl ?_
      obtain ⟨u3, hu3, h⟩ := Option.bind_eq_some_iff.mp h
      obtain ⟨y2, hy2, h⟩ := Option.bind_eq_some_iff.mp h
      refine rn_callV [.ref l1, .int l4] rfl rfl ⟨rfl, rfl⟩ hu3 rfl rfl (e9 d hy2) ?_
      refine rn_steps 0 26 [.ref l0, .ref l1, x2, .int l3, .int l4] [.int y2.1] rfl ?_
      refine rn_br (c := y2.1 = 0) rfl rfl decide_eq_true_iff (fun hb => ?_) (fun hb => ?_)
      · rw [if_pos hb] at h
        refine rn_steps 0 39 [.ref l0, .ref l1, x2, .int l3, .int l4] [] rfl ?_
        exact e11_39 d _ ih _ _ _ _ _ _ _ h
      · rw [if_neg hb] at h
        refine rn_steps 1 30 [.ref l0, .ref l1, x2, .int l3, .int l4] [.int l3] rfl ?_
        refine rn_br (c := ¬ l3 = 0) rfl rfl decide_eq_true_iff (fun hb => ?_) (fun hb => ?_)
        · rw [if_neg hb] at h
          refine rn_steps 1 39 [.ref l0, .ref l1, x2, .int (l3 + (-1)), .int l4] [] rfl ?_
          exact e11_39 d _ ih _ _ _ _ _ _ _ h
        · rw [if_pos (Decidable.not_not.mp hb)] at h
          refine rn_steps 1 35 [.ref l0, .ref l1, x2, .int l3, .int l4] [.int l4] rfl ?_
          cases h
          exact rn_ret rfl rfl rfl
/-- LastAsked$Fits.find(LLastAsked$City;I)I -/
noncomputable def f11 (l0 : Nat) (l1 : Nat) (l2 : Int32) (σ : xM) : Option (Int32 × xM) :=
  (cO σ l0 1).bind fun u2 =>
  (f7 l0 l1 σ).bind fun y1 =>
  f11_10 1100 l0 l1 l2 0 y1
set_option maxRecDepth 20000 in
set_option maxHeartbeats 1000000 in
theorem e11 (d : Nat) {l0 : Nat} {l1 : Nat} {l2 : Int32} {σ : xM} {y : Int32 × xM} (h : f11 l0 l1 l2 σ = some y) : Rn (d + 3) 11 0 [.ref l0, .ref l1, .int l2, .retAddr 0, .retAddr 0] [] σ (some (.int y.1), y.2) := by
  unfold f11 at h
  refine rn_steps 2 2 [.ref l0, .ref l1, .int l2, .retAddr 0, .retAddr 0] [.ref l1, .ref l0] rfl ?_
  obtain ⟨u2, hu2, h⟩ := Option.bind_eq_some_iff.mp h
  obtain ⟨y1, hy1, h⟩ := Option.bind_eq_some_iff.mp h
  refine rn_callV [.ref l1] rfl rfl ⟨rfl, rfl⟩ hu2 rfl rfl (e7 (d + 1) hy1) ?_
  refine rn_steps 4 10 [.ref l0, .ref l1, .int l2, .int l2, .int 0] [] rfl ?_
  exact e11_10 d 1100 _ _ _ _ _ _ _ h
noncomputable def f12_55 (l4 : Int32) (σ : xM) : Option (Int32 × xM) :=
  some (l4, σ)
set_option maxRecDepth 20000 in
set_option maxHeartbeats 1000000 in
theorem e12_55 (d : Nat) (l4 : Int32) (x0 x1 x2 x3 x5 : Value) (σ : xM) (y : Int32 × xM) (h : f12_55 l4 σ = some y) : Rn (d + 3) 12 55 [x0, x1, x2, x3, .int l4, x5] [] σ (some (.int y.1), y.2) := by
  unfold f12_55 at h
  refine rn_steps 1 57 [x0, x1, x2, x3, .int l4, x5] [.int l4] rfl ?_
  cases h
  exact rn_ret rfl rfl rfl
noncomputable def f12_49 (K11 : Nat → Nat → Int32 → Int32 → Int32 → Int32 → xM → Option (Int32 × xM)) (l0 : Nat) (l1 : Nat) (l2 : Int32) (l3 : Int32) (l4 : Int32) (l5 : Int32) (σ : xM) : Option (Int32 × xM) :=
  K11 l0 l1 l2 l3 l4 (l5 + 1) σ
set_option maxRecDepth 20000 in
set_option maxHeartbeats 1000000 in
theorem e12_49 (d : Nat) (K11 : Nat → Nat → Int32 → Int32 → Int32 → Int32 → xM → Option (Int32 × xM)) (hK11 : ∀ (l0 : Nat) (l1 : Nat) (l2 : Int32) (l3 : Int32) (l4 : Int32) (l5 : Int32) (σ : xM) (y : Int32 × xM), K11 l0 l1 l2 l3 l4 l5 σ = some y → Rn (d + 3) 12 11 [.ref l0, .ref l1, .int l2, .int l3, .int l4, .int l5] [] σ (some (.int y.1), y.2)) (l0 : Nat) (l1 : Nat) (l2 : Int32) (l3 : Int32) (l4 : Int32) (l5 : Int32) (σ : xM) (y : Int32 × xM) (h : f12_49 K11 l0 l1 l2 l3 l4 l5 σ = some y) : Rn (d + 3) 12 49 [.ref l0, .ref l1, .int l2, .int l3, .int l4, .int l5] [] σ (some (.int y.1), y.2) := by
  unfold f12_49 at h
  refine rn_steps 2 11 [.ref l0, .ref l1, .int l2, .int l3, .int l4, .int (l5 + 1)] [] rfl ?_
  exact hK11 _ _ _ _ _ _ _ _ h
noncomputable def f12_11 : Nat → Nat → Nat → Int32 → Int32 → Int32 → Int32 → xM → Option (Int32 × xM)
  | 0, _, _, _, _, _, _, _ => none
  | n + 1, l0, l1, l2, l3, l4, l5, σ =>
    (gI σ l0 1 0).bind fun v1 =>
    if v1 ≤ l5 then
    f12_55 l4 σ
    else
    (cO σ l0 1).bind fun u7 =>
    (f9 l0 l1 l5 σ).bind fun y2 =>
    if y2.1 = 0 then
    f12_49 (f12_11 n) l0 l1 l2 l3 l4 l5 y2.2
    else
    (gR y2.2 l0 1 4).bind fun r3 =>
    (cO y2.2 l1 0).bind fun u6 =>
    (f3 l1 y2.2).bind fun y4 =>
    (f58 r3 y4.1 l3 y4.2).bind fun y5 =>
    if y5.1 = l2 then
    f12_49 (f12_11 n) l0 l1 l2 l3 (l4 + 1) l5 y5.2
    else
    f12_49 (f12_11 n) l0 l1 l2 l3 l4 l5 y5.2
set_option maxRecDepth 20000 in
set_option maxHeartbeats 1000000 in
theorem e12_11 (d : Nat) : ∀ (n : Nat) (l0 : Nat) (l1 : Nat) (l2 : Int32) (l3 : Int32) (l4 : Int32) (l5 : Int32) (σ : xM) (y : Int32 × xM), f12_11 n l0 l1 l2 l3 l4 l5 σ = some y → Rn (d + 3) 12 11 [.ref l0, .ref l1, .int l2, .int l3, .int l4, .int l5] [] σ (some (.int y.1), y.2) := by
  intro n
  induction n with
  | zero => intro l0 l1 l2 l3 l4 l5 σ y h; cases h
  | succ n ih =>
    intro l0 l1 l2 l3 l4 l5 σ y h
    unfold f12_11 at h
    refine rn_steps 2 14 [.ref l0, .ref l1, .int l2, .int l3, .int l4, .int l5] [.ref l0, .int l5] rfl ?_
    obtain ⟨v1, hv1, h⟩ := Option.bind_eq_some_iff.mp h
    refine rn_gI (c := 1) (f := 0) rfl rfl ⟨⟨rfl, rfl⟩, Or.inl rfl⟩ hv1 ?_
    refine rn_steps 0 17 [.ref l0, .ref l1, .int l2, .int l3, .int l4, .int l5] [.int v1, .int l5] rfl ?_
    refine rn_br (c := v1 ≤ l5) rfl rfl decide_eq_true_iff (fun hb => ?_) (fun hb => ?_)
    · rw [if_pos hb] at h
      refine rn_steps 0 55 [.ref l0, .ref l1, .int l2, .int l3, .int l4, .int l5] [] rfl ?_
      exact e12_55 d _ _ _ _ _ _ _ _ h
    · rw [if_neg hb] at h
      refine rn_steps 3 24 [.ref l0, .ref l1, .int l2, .int l3, .int l4, .int l5] [.int l5, .ref l1, .ref l0] rfl ?_
      obtain ⟨u7, hu7, h⟩ := Option.bind_eq_some_iff.mp h
      obtain ⟨y2, hy2, h⟩ := Option.bind_eq_some_iff.mp h
      refine rn_callV [.ref l1, .int l5] rfl rfl ⟨rfl, rfl⟩ hu7 rfl rfl (e9 d hy2) ?_
      refine rn_steps 0 27 [.ref l0, .ref l1, .int l2, .int l3, .int l4, .int l5] [.int y2.1] rfl ?_
      refine rn_br (c := y2.1 = 0) rfl rfl decide_eq_true_iff (fun hb => ?_) (fun hb => ?_)
      · rw [if_pos hb] at h
        refine rn_steps 0 49 [.ref l0, .ref l1, .int l2, .int l3, .int l4, .int l5] [] rfl ?_
        exact e12_49 d _ ih _ _ _ _ _ _ _ _ h
      · rw [if_neg hb] at h
        refine rn_steps 1 31 [.ref l0, .ref l1, .int l2, .int l3, .int l4, .int l5] [.ref l0] rfl ?_
        obtain ⟨r3, hr3, h⟩ := Option.bind_eq_some_iff.mp h
        refine rn_gR (c := 1) (f := 4) rfl rfl ⟨⟨rfl, rfl⟩, rfl⟩ hr3 ?_
        refine rn_steps 1 35 [.ref l0, .ref l1, .int l2, .int l3, .int l4, .int l5] [.ref l1, .ref r3] rfl ?_
        obtain ⟨u6, hu6, h⟩ := Option.bind_eq_some_iff.mp h
        obtain ⟨y4, hy4, h⟩ := Option.bind_eq_some_iff.mp h
        refine rn_callV [] rfl rfl ⟨rfl, rfl⟩ hu6 rfl rfl (e3 (d + 2) hy4) ?_
        refine rn_steps 1 39 [.ref l0, .ref l1, .int l2, .int l3, .int l4, .int l5] [.int l3, .int y4.1, .ref r3] rfl ?_
        obtain ⟨y5, hy5, h⟩ := Option.bind_eq_some_iff.mp h
        refine rn_callS [.ref r3, .int y4.1, .int l3] rfl rfl rfl ⟨rfl, rfl, rfl⟩ rfl rfl (e58 (d + 1) hy5) ?_
        refine rn_steps 1 43 [.ref l0, .ref l1, .int l2, .int l3, .int l4, .int l5] [.int l2, .int y5.1] rfl ?_
        refine rn_br (c := ¬ y5.1 = l2) rfl rfl decide_eq_true_iff (fun hb => ?_) (fun hb => ?_)
        · rw [if_neg hb] at h
          refine rn_steps 0 49 [.ref l0, .ref l1, .int l2, .int l3, .int l4, .int l5] [] rfl ?_
          exact e12_49 d _ ih _ _ _ _ _ _ _ _ h
        · rw [if_pos (Decidable.not_not.mp hb)] at h
          refine rn_steps 1 49 [.ref l0, .ref l1, .int l2, .int l3, .int (l4 + 1), .int l5] [] rfl ?_
          exact e12_49 d _ ih _ _ _ _ _ _ _ _ h
/-- LastAsked$Fits.countHeir(LLastAsked$City;II)I -/
noncomputable def f12 (l0 : Nat) (l1 : Nat) (l2 : Int32) (l3 : Int32) (σ : xM) : Option (Int32 × xM) :=
  (cO σ l0 1).bind fun u2 =>
  (f7 l0 l1 σ).bind fun y1 =>
  f12_11 1100 l0 l1 l2 l3 0 0 y1
set_option maxRecDepth 20000 in
set_option maxHeartbeats 1000000 in
theorem e12 (d : Nat) {l0 : Nat} {l1 : Nat} {l2 : Int32} {l3 : Int32} {σ : xM} {y : Int32 × xM} (h : f12 l0 l1 l2 l3 σ = some y) : Rn (d + 3) 12 0 [.ref l0, .ref l1, .int l2, .int l3, .retAddr 0, .retAddr 0] [] σ (some (.int y.1), y.2) := by
  unfold f12 at h
  refine rn_steps 2 2 [.ref l0, .ref l1, .int l2, .int l3, .retAddr 0, .retAddr 0] [.ref l1, .ref l0] rfl ?_
  obtain ⟨u2, hu2, h⟩ := Option.bind_eq_some_iff.mp h
  obtain ⟨y1, hy1, h⟩ := Option.bind_eq_some_iff.mp h
  refine rn_callV [.ref l1] rfl rfl ⟨rfl, rfl⟩ hu2 rfl rfl (e7 (d + 1) hy1) ?_
  refine rn_steps 4 11 [.ref l0, .ref l1, .int l2, .int l3, .int 0, .int 0] [] rfl ?_
  exact e12_11 d 1100 _ _ _ _ _ _ _ _ h
noncomputable def f14_99 (l2 : Int32) (σ : xM) : Option (Int32 × xM) :=
  some (l2, σ)
set_option maxRecDepth 20000 in
set_option maxHeartbeats 1000000 in
theorem e14_99 (d : Nat) (l2 : Int32) (x0 x1 x3 x4 : Value) (σ : xM) (y : Int32 × xM) (h : f14_99 l2 σ = some y) : Rn (d + 3) 14 99 [x0, x1, .int l2, x3, x4] [] σ (some (.int y.1), y.2) := by
  unfold f14_99 at h
  refine rn_steps 1 100 [x0, x1, .int l2, x3, x4] [.int l2] rfl ?_
  cases h
  exact rn_ret rfl rfl rfl
noncomputable def f14_93 (K25 : Nat → Nat → Int32 → Int32 → xM → Option (Int32 × xM)) (l0 : Nat) (l1 : Nat) (l2 : Int32) (l3 : Int32) (σ : xM) : Option (Int32 × xM) :=
  K25 l0 l1 l2 (l3 + 1) σ
set_option maxRecDepth 20000 in
set_option maxHeartbeats 1000000 in
theorem e14_93 (d : Nat) (K25 : Nat → Nat → Int32 → Int32 → xM → Option (Int32 × xM)) (hK25 : ∀ (l0 : Nat) (l1 : Nat) (l2 : Int32) (l3 : Int32) (x4 : Value) (σ : xM) (y : Int32 × xM), K25 l0 l1 l2 l3 σ = some y → Rn (d + 3) 14 25 [.ref l0, .ref l1, .int l2, .int l3, x4] [] σ (some (.int y.1), y.2)) (l0 : Nat) (l1 : Nat) (l2 : Int32) (l3 : Int32) (x4 : Value) (σ : xM) (y : Int32 × xM) (h : f14_93 K25 l0 l1 l2 l3 σ = some y) : Rn (d + 3) 14 93 [.ref l0, .ref l1, .int l2, .int l3, x4] [] σ (some (.int y.1), y.2) := by
  unfold f14_93 at h
  refine rn_steps 2 25 [.ref l0, .ref l1, .int l2, .int (l3 + 1), x4] [] rfl ?_
  exact hK25 _ _ _ _ _ _ _ h
noncomputable def f14_48 (K25 : Nat → Nat → Int32 → Int32 → xM → Option (Int32 × xM)) : Nat → Nat → Nat → Int32 → Int32 → Int32 → xM → Option (Int32 × xM)
  | 0, _, _, _, _, _, _ => none
  | n + 1, l0, l1, l2, l3, l4, σ =>
    (gI σ l1 0 5).bind fun v1 =>
    if v1 ≤ l4 then
    f14_93 K25 l0 l1 l2 l3 σ
    else
    (gR σ l0 1 5).bind fun r2 =>
    (cO σ l0 1).bind fun u8 =>
    (f8 l0 l3 l4 σ).bind fun y3 =>
    (gR y3.2 l0 1 1).bind fun r4 =>
    (aI y3.2 r4 l4).bind fun v5 =>
    (aI y3.2 r2 (((l4 * 7) + y3.1) - v5)).bind fun v6 =>
    (tI y3.2 r2 (((l4 * 7) + y3.1) - v5) (v6 + 1)).bind fun σ7 =>
    (f14_48 K25 n) l0 l1 l2 l3 (l4 + 1) σ7
set_option maxRecDepth 20000 in
set_option maxHeartbeats 1000000 in
theorem e14_48 (d : Nat) (K25 : Nat → Nat → Int32 → Int32 → xM → Option (Int32 × xM)) (hK25 : ∀ (l0 : Nat) (l1 : Nat) (l2 : Int32) (l3 : Int32) (x4 : Value) (σ : xM) (y : Int32 × xM), K25 l0 l1 l2 l3 σ = some y → Rn (d + 3) 14 25 [.ref l0, .ref l1, .int l2, .int l3, x4] [] σ (some (.int y.1), y.2)) : ∀ (n : Nat) (l0 : Nat) (l1 : Nat) (l2 : Int32) (l3 : Int32) (l4 : Int32) (σ : xM) (y : Int32 × xM), f14_48 K25 n l0 l1 l2 l3 l4 σ = some y → Rn (d + 3) 14 48 [.ref l0, .ref l1, .int l2, .int l3, .int l4] [] σ (some (.int y.1), y.2) := by
  intro n
  induction n with
  | zero => intro l0 l1 l2 l3 l4 σ y h; cases h
  | succ n ih =>
    intro l0 l1 l2 l3 l4 σ y h
    unfold f14_48 at h
    refine rn_steps 2 51 [.ref l0, .ref l1, .int l2, .int l3, .int l4] [.ref l1, .int l4] rfl ?_
    obtain ⟨v1, hv1, h⟩ := Option.bind_eq_some_iff.mp h
    refine rn_gI (c := 0) (f := 5) rfl rfl ⟨⟨rfl, rfl⟩, Or.inl rfl⟩ hv1 ?_
    refine rn_steps 0 54 [.ref l0, .ref l1, .int l2, .int l3, .int l4] [.int v1, .int l4] rfl ?_
    refine rn_br (c := v1 ≤ l4) rfl rfl decide_eq_true_iff (fun hb => ?_) (fun hb => ?_)
    · rw [if_pos hb] at h
      refine rn_steps 0 93 [.ref l0, .ref l1, .int l2, .int l3, .int l4] [] rfl ?_
      exact e14_93 d _ hK25 _ _ _ _ _ _ _ h
    · rw [if_neg hb] at h
      refine rn_steps 1 58 [.ref l0, .ref l1, .int l2, .int l3, .int l4] [.ref l0] rfl ?_
      obtain ⟨r2, hr2, h⟩ := Option.bind_eq_some_iff.mp h
      refine rn_gR (c := 1) (f := 5) rfl rfl ⟨⟨rfl, rfl⟩, rfl⟩ hr2 ?_
      refine rn_steps 6 70 [.ref l0, .ref l1, .int l2, .int l3, .int l4] [.int l4, .int l3, .ref l0, .int (l4 * 7), .ref r2] rfl ?_
      obtain ⟨u8, hu8, h⟩ := Option.bind_eq_some_iff.mp h
      obtain ⟨y3, hy3, h⟩ := Option.bind_eq_some_iff.mp h
      refine rn_callV [.int l3, .int l4] rfl rfl ⟨rfl, rfl⟩ hu8 rfl rfl (e8 (d + 2) hy3) ?_
      refine rn_steps 2 75 [.ref l0, .ref l1, .int l2, .int l3, .int l4] [.ref l0, .int ((l4 * 7) + y3.1), .ref r2] rfl ?_
      obtain ⟨r4, hr4, h⟩ := Option.bind_eq_some_iff.mp h
      refine rn_gR (c := 1) (f := 1) rfl rfl ⟨⟨rfl, rfl⟩, rfl⟩ hr4 ?_
      refine rn_steps 1 80 [.ref l0, .ref l1, .int l2, .int l3, .int l4] [.int l4, .ref r4, .int ((l4 * 7) + y3.1), .ref r2] rfl ?_
      obtain ⟨v5, hv5, h⟩ := Option.bind_eq_some_iff.mp h
      refine rn_aI rfl hv5 ?_
      refine rn_steps 2 83 [.ref l0, .ref l1, .int l2, .int l3, .int l4] [.int (((l4 * 7) + y3.1) - v5), .ref r2, .int (((l4 * 7) + y3.1) - v5), .ref r2] rfl ?_
      obtain ⟨v6, hv6, h⟩ := Option.bind_eq_some_iff.mp h
      refine rn_aI rfl hv6 ?_
      refine rn_steps 2 86 [.ref l0, .ref l1, .int l2, .int l3, .int l4] [.int (v6 + 1), .int (((l4 * 7) + y3.1) - v5), .ref r2] rfl ?_
      obtain ⟨σ7, hσ7, h⟩ := Option.bind_eq_some_iff.mp h
      refine rn_tI rfl hσ7 ?_
      refine rn_steps 2 48 [.ref l0, .ref l1, .int l2, .int l3, .int (l4 + 1)] [] rfl ?_
      exact ih _ _ _ _ _ _ _ h
noncomputable def f14_25 : Nat → Nat → Nat → Int32 → Int32 → xM → Option (Int32 × xM)
  | 0, _, _, _, _, _ => none
  | n + 1, l0, l1, l2, l3, σ =>
    (gI σ l0 1 0).bind fun v1 =>
    if v1 ≤ l3 then
    f14_99 l2 σ
    else
    (cO σ l0 1).bind fun u3 =>
    (f9 l0 l1 l3 σ).bind fun y2 =>
    if y2.1 = 0 then
    f14_93 (f14_25 n) l0 l1 l2 l3 y2.2
    else
    f14_48 (f14_25 n) 1100 l0 l1 (l2 + 1) l3 0 y2.2
set_option maxRecDepth 20000 in
set_option maxHeartbeats 1000000 in
theorem e14_25 (d : Nat) : ∀ (n : Nat) (l0 : Nat) (l1 : Nat) (l2 : Int32) (l3 : Int32) (x4 : Value) (σ : xM) (y : Int32 × xM), f14_25 n l0 l1 l2 l3 σ = some y → Rn (d + 3) 14 25 [.ref l0, .ref l1, .int l2, .int l3, x4] [] σ (some (.int y.1), y.2) := by
  intro n
  induction n with
  | zero => intro l0 l1 l2 l3 x4 σ y h; cases h
  | succ n ih =>
    intro l0 l1 l2 l3 x4 σ y h
    unfold f14_25 at h
    refine rn_steps 2 27 [.ref l0, .ref l1, .int l2, .int l3, x4] [.ref l0, .int l3] rfl ?_
    obtain ⟨v1, hv1, h⟩ := Option.bind_eq_some_iff.mp h
    refine rn_gI (c := 1) (f := 0) rfl rfl ⟨⟨rfl, rfl⟩, Or.inl rfl⟩ hv1 ?_
    refine rn_steps 0 30 [.ref l0, .ref l1, .int l2, .int l3, x4] [.int v1, .int l3] rfl ?_
    refine rn_br (c := v1 ≤ l3) rfl rfl decide_eq_true_iff (fun hb => ?_) (fun hb => ?_)
    · rw [if_pos hb] at h
      refine rn_steps 0 99 [.ref l0, .ref l1, .int l2, .int l3, x4] [] rfl ?_
      exact e14_99 d _ _ _ _ _ _ _ h
    · rw [if_neg hb] at h
      refine rn_steps 3 36 [.ref l0, .ref l1, .int l2, .int l3, x4] [.int l3, .ref l1, .ref l0] rfl ?_
      obtain ⟨u3, hu3, h⟩ := Option.bind_eq_some_iff.mp h
      obtain ⟨y2, hy2, h⟩ := Option.bind_eq_some_iff.mp h
      refine rn_callV [.ref l1, .int l3] rfl rfl ⟨rfl, rfl⟩ hu3 rfl rfl (e9 d hy2) ?_
      refine rn_steps 0 39 [.ref l0, .ref l1, .int l2, .int l3, x4] [.int y2.1] rfl ?_
      refine rn_br (c := y2.1 = 0) rfl rfl decide_eq_true_iff (fun hb => ?_) (fun hb => ?_)
      · rw [if_pos hb] at h
        refine rn_steps 0 93 [.ref l0, .ref l1, .int l2, .int l3, x4] [] rfl ?_
        exact e14_93 d _ ih _ _ _ _ _ _ _ h
      · rw [if_neg hb] at h
        refine rn_steps 3 48 [.ref l0, .ref l1, .int (l2 + 1), .int l3, .int 0] [] rfl ?_
        exact e14_48 d _ ih 1100 _ _ _ _ _ _ _ h
noncomputable def f14_23 (l0 : Nat) (l1 : Nat) (l2 : Int32) (σ : xM) : Option (Int32 × xM) :=
  f14_25 1100 l0 l1 l2 0 σ
set_option maxRecDepth 20000 in
set_option maxHeartbeats 1000000 in
theorem e14_23 (d : Nat) (l0 : Nat) (l1 : Nat) (l2 : Int32) (x3 x4 : Value) (σ : xM) (y : Int32 × xM) (h : f14_23 l0 l1 l2 σ = some y) : Rn (d + 3) 14 23 [.ref l0, .ref l1, .int l2, x3, x4] [] σ (some (.int y.1), y.2) := by
  unfold f14_23 at h
  refine rn_steps 2 25 [.ref l0, .ref l1, .int l2, .int 0, x4] [] rfl ?_
  exact e14_25 d 1100 _ _ _ _ _ _ _ h
noncomputable def f14_4 : Nat → Nat → Nat → Int32 → Int32 → xM → Option (Int32 × xM)
  | 0, _, _, _, _, _ => none
  | n + 1, l0, l1, l2, l3, σ =>
    if 21 ≤ l3 then
    f14_23 l0 l1 l2 σ
    else
    (gR σ l0 1 5).bind fun r1 =>
    (tI σ r1 l3 0).bind fun σ2 =>
    (f14_4 n) l0 l1 l2 (l3 + 1) σ2
set_option maxRecDepth 20000 in
set_option maxHeartbeats 1000000 in
theorem e14_4 (d : Nat) : ∀ (n : Nat) (l0 : Nat) (l1 : Nat) (l2 : Int32) (l3 : Int32) (x4 : Value) (σ : xM) (y : Int32 × xM), f14_4 n l0 l1 l2 l3 σ = some y → Rn (d + 3) 14 4 [.ref l0, .ref l1, .int l2, .int l3, x4] [] σ (some (.int y.1), y.2) := by
  intro n
  induction n with
  | zero => intro l0 l1 l2 l3 x4 σ y h; cases h
  | succ n ih =>
    intro l0 l1 l2 l3 x4 σ y h
    unfold f14_4 at h
    refine rn_steps 2 7 [.ref l0, .ref l1, .int l2, .int l3, x4] [.int 21, .int l3] rfl ?_
    refine rn_br (c := 21 ≤ l3) rfl rfl decide_eq_true_iff (fun hb => ?_) (fun hb => ?_)
    · rw [if_pos hb] at h
      refine rn_steps 0 23 [.ref l0, .ref l1, .int l2, .int l3, x4] [] rfl ?_
      exact e14_23 d _ _ _ _ _ _ _ h
    · rw [if_neg hb] at h
      refine rn_steps 1 11 [.ref l0, .ref l1, .int l2, .int l3, x4] [.ref l0] rfl ?_
      obtain ⟨r1, hr1, h⟩ := Option.bind_eq_some_iff.mp h
      refine rn_gR (c := 1) (f := 5) rfl rfl ⟨⟨rfl, rfl⟩, rfl⟩ hr1 ?_
      refine rn_steps 2 16 [.ref l0, .ref l1, .int l2, .int l3, x4] [.int 0, .int l3, .ref r1] rfl ?_
      obtain ⟨σ2, hσ2, h⟩ := Option.bind_eq_some_iff.mp h
      refine rn_tI rfl hσ2 ?_
      refine rn_steps 2 4 [.ref l0, .ref l1, .int l2, .int (l3 + 1), x4] [] rfl ?_
      exact ih _ _ _ _ _ _ _ h
/-- LastAsked$Fits.countByHours(LLastAsked$City;)I -/
noncomputable def f14 (l0 : Nat) (l1 : Nat) (σ : xM) : Option (Int32 × xM) :=
  f14_4 1100 l0 l1 0 0 σ
set_option maxRecDepth 20000 in
set_option maxHeartbeats 1000000 in
theorem e14 (d : Nat) {l0 : Nat} {l1 : Nat} {σ : xM} {y : Int32 × xM} (h : f14 l0 l1 σ = some y) : Rn (d + 3) 14 0 [.ref l0, .ref l1, .retAddr 0, .retAddr 0, .retAddr 0] [] σ (some (.int y.1), y.2) := by
  unfold f14 at h
  refine rn_steps 4 4 [.ref l0, .ref l1, .int 0, .int 0, .retAddr 0] [] rfl ?_
  exact e14_4 d 1100 _ _ _ _ _ _ _ h
noncomputable def f15_32 (l2 : Int32) (σ : xM) : Option (Int32 × xM) :=
  some (l2, σ)
set_option maxRecDepth 20000 in
set_option maxHeartbeats 1000000 in
theorem e15_32 (d : Nat) (l2 : Int32) (x0 x1 x3 : Value) (σ : xM) (y : Int32 × xM) (h : f15_32 l2 σ = some y) : Rn (d + 1) 15 32 [x0, x1, .int l2, x3] [] σ (some (.int y.1), y.2) := by
  unfold f15_32 at h
  refine rn_steps 1 33 [x0, x1, .int l2, x3] [.int l2] rfl ?_
  cases h
  exact rn_ret rfl rfl rfl
noncomputable def f15_4 : Nat → Nat → Int32 → Int32 → Int32 → xM → Option (Int32 × xM)
  | 0, _, _, _, _, _ => none
  | n + 1, l0, l1, l2, l3, σ =>
    if 7 ≤ l3 then
    f15_32 l2 σ
    else
    (gR σ l0 1 5).bind fun r1 =>
    (aI σ r1 ((l1 * 7) + l3)).bind fun v2 =>
    (f15_4 n) l0 l1 (if v2 > l2 then v2 else l2) (l3 + 1) σ
set_option maxRecDepth 20000 in
set_option maxHeartbeats 1000000 in
theorem e15_4 (d : Nat) : ∀ (n : Nat) (l0 : Nat) (l1 : Int32) (l2 : Int32) (l3 : Int32) (σ : xM) (y : Int32 × xM), f15_4 n l0 l1 l2 l3 σ = some y → Rn (d + 1) 15 4 [.ref l0, .int l1, .int l2, .int l3] [] σ (some (.int y.1), y.2) := by
  intro n
  induction n with
  | zero => intro l0 l1 l2 l3 σ y h; cases h
  | succ n ih =>
    intro l0 l1 l2 l3 σ y h
    unfold f15_4 at h
    refine rn_steps 2 7 [.ref l0, .int l1, .int l2, .int l3] [.int 7, .int l3] rfl ?_
    refine rn_br (c := 7 ≤ l3) rfl rfl decide_eq_true_iff (fun hb => ?_) (fun hb => ?_)
    · rw [if_pos hb] at h
      refine rn_steps 0 32 [.ref l0, .int l1, .int l2, .int l3] [] rfl ?_
      exact e15_32 d _ _ _ _ _ _ h
    · rw [if_neg hb] at h
      refine rn_steps 2 12 [.ref l0, .int l1, .int l2, .int l3] [.ref l0, .int l2] rfl ?_
      obtain ⟨r1, hr1, h⟩ := Option.bind_eq_some_iff.mp h
      refine rn_gR (c := 1) (f := 5) rfl rfl ⟨⟨rfl, rfl⟩, rfl⟩ hr1 ?_
      refine rn_steps 5 21 [.ref l0, .int l1, .int l2, .int l3] [.int ((l1 * 7) + l3), .ref r1, .int l2] rfl ?_
      obtain ⟨v2, hv2, h⟩ := Option.bind_eq_some_iff.mp h
      refine rn_aI rfl hv2 ?_
      refine rn_steps 4 4 [.ref l0, .int l1, .int (if v2 > l2 then v2 else l2), .int (l3 + 1)] [] rfl ?_
      exact ih _ _ _ _ _ _ h
/-- LastAsked$Fits.leftAtMost(I)I -/
noncomputable def f15 (l0 : Nat) (l1 : Int32) (σ : xM) : Option (Int32 × xM) :=
  f15_4 1100 l0 l1 0 0 σ
set_option maxRecDepth 20000 in
set_option maxHeartbeats 1000000 in
theorem e15 (d : Nat) {l0 : Nat} {l1 : Int32} {σ : xM} {y : Int32 × xM} (h : f15 l0 l1 σ = some y) : Rn (d + 1) 15 0 [.ref l0, .int l1, .retAddr 0, .retAddr 0] [] σ (some (.int y.1), y.2) := by
  unfold f15 at h
  refine rn_steps 4 4 [.ref l0, .int l1, .int 0, .int 0] [] rfl ?_
  exact e15_4 d 1100 _ _ _ _ _ _ h
noncomputable def f13_64 (l2 : Int32) (σ : xM) : Option (Int32 × xM) :=
  some (l2, σ)
set_option maxRecDepth 20000 in
set_option maxHeartbeats 1000000 in
theorem e13_64 (d : Nat) (l2 : Int32) (x0 x1 x3 x4 x5 : Value) (σ : xM) (y : Int32 × xM) (h : f13_64 l2 σ = some y) : Rn (d + 4) 13 64 [x0, x1, .int l2, x3, x4, x5] [] σ (some (.int y.1), y.2) := by
  unfold f13_64 at h
  refine rn_steps 1 65 [x0, x1, .int l2, x3, x4, x5] [.int l2] rfl ?_
  cases h
  exact rn_ret rfl rfl rfl
noncomputable def f13_58 (K29 : Nat → Nat → Int32 → Int32 → Int32 → xM → Option (Int32 × xM)) (l0 : Nat) (l1 : Nat) (l2 : Int32) (l3 : Int32) (l4 : Int32) (σ : xM) : Option (Int32 × xM) :=
  K29 l0 l1 l2 l3 (l4 + 1) σ
set_option maxRecDepth 20000 in
set_option maxHeartbeats 1000000 in
theorem e13_58 (d : Nat) (K29 : Nat → Nat → Int32 → Int32 → Int32 → xM → Option (Int32 × xM)) (hK29 : ∀ (l0 : Nat) (l1 : Nat) (l2 : Int32) (l3 : Int32) (l4 : Int32) (x5 : Value) (σ : xM) (y : Int32 × xM), K29 l0 l1 l2 l3 l4 σ = some y → Rn (d + 4) 13 29 [.ref l0, .ref l1, .int l2, .int l3, .int l4, x5] [] σ (some (.int y.1), y.2)) (l0 : Nat) (l1 : Nat) (l2 : Int32) (l3 : Int32) (l4 : Int32) (x5 : Value) (σ : xM) (y : Int32 × xM) (h : f13_58 K29 l0 l1 l2 l3 l4 σ = some y) : Rn (d + 4) 13 58 [.ref l0, .ref l1, .int l2, .int l3, .int l4, x5] [] σ (some (.int y.1), y.2) := by
  unfold f13_58 at h
  refine rn_steps 2 29 [.ref l0, .ref l1, .int l2, .int l3, .int (l4 + 1), x5] [] rfl ?_
  exact hK29 _ _ _ _ _ _ _ _ h
noncomputable def f13_29 : Nat → Nat → Nat → Int32 → Int32 → Int32 → xM → Option (Int32 × xM)
  | 0, _, _, _, _, _, _ => none
  | n + 1, l0, l1, l2, l3, l4, σ =>
    (gI σ l1 0 5).bind fun v1 =>
    if v1 ≤ l4 then
    f13_64 l2 σ
    else
    (cO σ l0 1).bind fun u3 =>
    (f15 l0 l4 σ).bind fun y2 =>
    if l3 ≤ y2.1 then
    f13_58 (f13_29 n) l0 l1 l2 l3 l4 y2.2
    else
    f13_58 (f13_29 n) l0 l1 l4 y2.1 l4 y2.2
set_option maxRecDepth 20000 in
set_option maxHeartbeats 1000000 in
theorem e13_29 (d : Nat) : ∀ (n : Nat) (l0 : Nat) (l1 : Nat) (l2 : Int32) (l3 : Int32) (l4 : Int32) (x5 : Value) (σ : xM) (y : Int32 × xM), f13_29 n l0 l1 l2 l3 l4 σ = some y → Rn (d + 4) 13 29 [.ref l0, .ref l1, .int l2, .int l3, .int l4, x5] [] σ (some (.int y.1), y.2) := by
  intro n
  induction n with
  | zero => intro l0 l1 l2 l3 l4 x5 σ y h; cases h
  | succ n ih =>
    intro l0 l1 l2 l3 l4 x5 σ y h
    unfold f13_29 at h
    refine rn_steps 2 32 [.ref l0, .ref l1, .int l2, .int l3, .int l4, x5] [.ref l1, .int l4] rfl ?_
    obtain ⟨v1, hv1, h⟩ := Option.bind_eq_some_iff.mp h
    refine rn_gI (c := 0) (f := 5) rfl rfl ⟨⟨rfl, rfl⟩, Or.inl rfl⟩ hv1 ?_
    refine rn_steps 0 35 [.ref l0, .ref l1, .int l2, .int l3, .int l4, x5] [.int v1, .int l4] rfl ?_
    refine rn_br (c := v1 ≤ l4) rfl rfl decide_eq_true_iff (fun hb => ?_) (fun hb => ?_)
    · rw [if_pos hb] at h
      refine rn_steps 0 64 [.ref l0, .ref l1, .int l2, .int l3, .int l4, x5] [] rfl ?_
      exact e13_64 d _ _ _ _ _ _ _ _ h
    · rw [if_neg hb] at h
      refine rn_steps 2 41 [.ref l0, .ref l1, .int l2, .int l3, .int l4, x5] [.int l4, .ref l0] rfl ?_
      obtain ⟨u3, hu3, h⟩ := Option.bind_eq_some_iff.mp h
      obtain ⟨y2, hy2, h⟩ := Option.bind_eq_some_iff.mp h
      refine rn_callV [.int l4] rfl rfl ⟨rfl, rfl⟩ hu3 rfl rfl (e15 (d + 2) hy2) ?_
      refine rn_steps 3 49 [.ref l0, .ref l1, .int l2, .int l3, .int l4, .int y2.1] [.int l3, .int y2.1] rfl ?_
      refine rn_br (c := l3 ≤ y2.1) rfl rfl decide_eq_true_iff (fun hb => ?_) (fun hb => ?_)
      · rw [if_pos hb] at h
        refine rn_steps 0 58 [.ref l0, .ref l1, .int l2, .int l3, .int l4, .int y2.1] [] rfl ?_
        exact e13_58 d _ ih _ _ _ _ _ _ _ _ h
      · rw [if_neg hb] at h
        refine rn_steps 4 58 [.ref l0, .ref l1, .int l4, .int y2.1, .int l4, .int y2.1] [] rfl ?_
        exact e13_58 d _ ih _ _ _ _ _ _ _ _ h
/-- LastAsked$Fits.whichToLookAt(LLastAsked$City;)I -/
noncomputable def f13 (l0 : Nat) (l1 : Nat) (σ : xM) : Option (Int32 × xM) :=
  (cO σ l0 1).bind fun u5 =>
  (f7 l0 l1 σ).bind fun y1 =>
  (cO y1 l0 1).bind fun u4 =>
  (f14 l0 l1 y1).bind fun y2 =>
  if y2.1 = 0 then
  some ((-2), y2.2)
  else
  (gI y2.2 l0 1 0).bind fun v3 =>
  f13_29 1100 l0 l1 (-2) (v3 + 1) 0 y2.2
set_option maxRecDepth 20000 in
set_option maxHeartbeats 1000000 in
theorem e13 (d : Nat) {l0 : Nat} {l1 : Nat} {σ : xM} {y : Int32 × xM} (h : f13 l0 l1 σ = some y) : Rn (d + 4) 13 0 [.ref l0, .ref l1, .retAddr 0, .retAddr 0, .retAddr 0, .retAddr 0] [] σ (some (.int y.1), y.2) := by
  unfold f13 at h
  refine rn_steps 2 2 [.ref l0, .ref l1, .retAddr 0, .retAddr 0, .retAddr 0, .retAddr 0] [.ref l1, .ref l0] rfl ?_
  obtain ⟨u5, hu5, h⟩ := Option.bind_eq_some_iff.mp h
  obtain ⟨y1, hy1, h⟩ := Option.bind_eq_some_iff.mp h
  refine rn_callV [.ref l1] rfl rfl ⟨rfl, rfl⟩ hu5 rfl rfl (e7 (d + 2) hy1) ?_
  refine rn_steps 2 7 [.ref l0, .ref l1, .retAddr 0, .retAddr 0, .retAddr 0, .retAddr 0] [.ref l1, .ref l0] rfl ?_
  obtain ⟨u4, hu4, h⟩ := Option.bind_eq_some_iff.mp h
  obtain ⟨y2, hy2, h⟩ := Option.bind_eq_some_iff.mp h
  refine rn_callV [.ref l1] rfl rfl ⟨rfl, rfl⟩ hu4 rfl rfl (e14 d hy2) ?_
  refine rn_steps 0 10 [.ref l0, .ref l1, .retAddr 0, .retAddr 0, .retAddr 0, .retAddr 0] [.int y2.1] rfl ?_
  refine rn_br (c := ¬ y2.1 = 0) rfl rfl decide_eq_true_iff (fun hb => ?_) (fun hb => ?_)
  · rw [if_neg hb] at h
    refine rn_steps 3 20 [.ref l0, .ref l1, .int (-2), .retAddr 0, .retAddr 0, .retAddr 0] [.ref l0] rfl ?_
    obtain ⟨v3, hv3, h⟩ := Option.bind_eq_some_iff.mp h
    refine rn_gI (c := 1) (f := 0) rfl rfl ⟨⟨rfl, rfl⟩, Or.inl rfl⟩ hv3 ?_
    refine rn_steps 5 29 [.ref l0, .ref l1, .int (-2), .int (v3 + 1), .int 0, .retAddr 0] [] rfl ?_
    exact e13_29 d 1100 _ _ _ _ _ _ _ _ h
  · rw [if_pos (Decidable.not_not.mp hb)] at h
    refine rn_steps 1 15 [.ref l0, .ref l1, .retAddr 0, .retAddr 0, .retAddr 0, .retAddr 0] [.int (-2)] rfl ?_
    cases h
    exact rn_ret rfl rfl rfl
/-- LastAsked$State.<init>()V -/
noncomputable def f45 (l0 : Nat) (σ : xM) : Option xM :=
  (pI σ l0 4 0 0).bind fun σ1 =>
  (pI σ1 l0 4 1 0).bind fun σ2 =>
  (pI σ2 l0 4 2 0).bind fun σ3 =>
  (pI σ3 l0 4 3 0).bind fun σ4 =>
  (pI σ4 l0 4 4 0).bind fun σ5 =>
  (nA σ5 11 6).bind fun σ6 =>
  (pR σ6 l0 4 5 (mN σ5)).bind fun σ7 =>
  (nA σ7 11 36).bind fun σ8 =>
  (pR σ8 l0 4 6 (mN σ7)).bind fun σ9 =>
  some σ9
set_option maxRecDepth 20000 in
set_option maxHeartbeats 1000000 in
theorem e45 (d : Nat) {l0 : Nat} {σ : xM} {y : xM} (h : f45 l0 σ = some y) : Rn (d + 1) 45 0 [.ref l0] [] σ (none, y) := by
  unfold f45 at h
  refine rn_steps 4 6 [.ref l0] [.int 0, .ref l0] rfl ?_
  obtain ⟨σ1, hσ1, h⟩ := Option.bind_eq_some_iff.mp h
  refine rn_pI (c := 4) (f := 0) rfl rfl ⟨⟨rfl, rfl⟩, rfl⟩ hσ1 ?_
  refine rn_steps 2 11 [.ref l0] [.int 0, .ref l0] rfl ?_
  obtain ⟨σ2, hσ2, h⟩ := Option.bind_eq_some_iff.mp h
  refine rn_pI (c := 4) (f := 1) rfl rfl ⟨⟨rfl, rfl⟩, rfl⟩ hσ2 ?_
  refine rn_steps 2 16 [.ref l0] [.int 0, .ref l0] rfl ?_
  obtain ⟨σ3, hσ3, h⟩ := Option.bind_eq_some_iff.mp h
  refine rn_pI (c := 4) (f := 2) rfl rfl ⟨⟨rfl, rfl⟩, rfl⟩ hσ3 ?_
  refine rn_steps 2 21 [.ref l0] [.int 0, .ref l0] rfl ?_
  obtain ⟨σ4, hσ4, h⟩ := Option.bind_eq_some_iff.mp h
  refine rn_pI (c := 4) (f := 3) rfl rfl ⟨⟨rfl, rfl⟩, rfl⟩ hσ4 ?_
  refine rn_steps 2 26 [.ref l0] [.int 0, .ref l0] rfl ?_
  obtain ⟨σ5, hσ5, h⟩ := Option.bind_eq_some_iff.mp h
  refine rn_pI (c := 4) (f := 4) rfl rfl ⟨⟨rfl, rfl⟩, rfl⟩ hσ5 ?_
  refine rn_steps 2 32 [.ref l0] [.int 6, .ref l0] rfl ?_
  obtain ⟨σ6, hσ6, h⟩ := Option.bind_eq_some_iff.mp h
  refine rn_nA rfl hσ6 ?_
  refine rn_steps 0 34 [.ref l0] [.ref (mN σ5), .ref l0] rfl ?_
  obtain ⟨σ7, hσ7, h⟩ := Option.bind_eq_some_iff.mp h
  refine rn_pR (c := 4) (f := 5) rfl rfl ⟨⟨rfl, rfl⟩, rfl⟩ hσ7 ?_
  refine rn_steps 2 40 [.ref l0] [.int 36, .ref l0] rfl ?_
  obtain ⟨σ8, hσ8, h⟩ := Option.bind_eq_some_iff.mp h
  refine rn_nA rfl hσ8 ?_
  refine rn_steps 0 42 [.ref l0] [.ref (mN σ7), .ref l0] rfl ?_
  obtain ⟨σ9, hσ9, h⟩ := Option.bind_eq_some_iff.mp h
  refine rn_pR (c := 4) (f := 6) rfl rfl ⟨⟨rfl, rfl⟩, rfl⟩ hσ9 ?_
  refine rn_steps 0 45 [.ref l0] [] rfl ?_
  cases h
  exact rn_ret rfl rfl rfl
noncomputable def f16_89 (σ : xM) : Option xM :=
  some σ
set_option maxRecDepth 20000 in
set_option maxHeartbeats 1000000 in
theorem e16_89 (d : Nat) (x0 x1 : Value) (σ : xM) (y : xM) (h : f16_89 σ = some y) : Rn (d + 2) 16 89 [x0, x1] [] σ (none, y) := by
  unfold f16_89 at h
  cases h
  exact rn_ret rfl rfl rfl
noncomputable def f16_65 : Nat → Nat → Int32 → xM → Option xM
  | 0, _, _, _ => none
  | n + 1, l0, l1, σ =>
    if 3 ≤ l1 then
    f16_89 σ
    else
    (gR σ l0 2 4).bind fun r1 =>
    (nO σ 4).bind fun σ2 =>
    (f45 (mN σ) σ2).bind fun y3 =>
    (tR y3 r1 l1 (mN σ)).bind fun σ4 =>
    (f16_65 n) l0 (l1 + 1) σ4
set_option maxRecDepth 20000 in
set_option maxHeartbeats 1000000 in
theorem e16_65 (d : Nat) : ∀ (n : Nat) (l0 : Nat) (l1 : Int32) (σ : xM) (y : xM), f16_65 n l0 l1 σ = some y → Rn (d + 2) 16 65 [.ref l0, .int l1] [] σ (none, y) := by
  intro n
  induction n with
  | zero => intro l0 l1 σ y h; cases h
  | succ n ih =>
    intro l0 l1 σ y h
    unfold f16_65 at h
    refine rn_steps 2 67 [.ref l0, .int l1] [.int 3, .int l1] rfl ?_
    refine rn_br (c := 3 ≤ l1) rfl rfl decide_eq_true_iff (fun hb => ?_) (fun hb => ?_)
    · rw [if_pos hb] at h
      refine rn_steps 0 89 [.ref l0, .int l1] [] rfl ?_
      exact e16_89 d _ _ _ _ h
    · rw [if_neg hb] at h
      refine rn_steps 1 71 [.ref l0, .int l1] [.ref l0] rfl ?_
      obtain ⟨r1, hr1, h⟩ := Option.bind_eq_some_iff.mp h
      refine rn_gR (c := 2) (f := 4) rfl rfl ⟨⟨rfl, rfl⟩, rfl⟩ hr1 ?_
      refine rn_steps 1 75 [.ref l0, .int l1] [.int l1, .ref r1] rfl ?_
      obtain ⟨σ2, hσ2, h⟩ := Option.bind_eq_some_iff.mp h
      refine rn_nO rfl hσ2 ?_
      refine rn_steps 1 79 [.ref l0, .int l1] [.ref (mN σ), .ref (mN σ), .int l1, .ref r1] rfl ?_
      obtain ⟨y3, hy3, h⟩ := Option.bind_eq_some_iff.mp h
      refine rn_callI [] rfl rfl rfl rfl rfl rfl (e45 d hy3) ?_
      refine rn_steps 0 82 [.ref l0, .int l1] [.ref (mN σ), .int l1, .ref r1] rfl ?_
      obtain ⟨σ4, hσ4, h⟩ := Option.bind_eq_some_iff.mp h
      refine rn_tR rfl hσ4 ?_
      refine rn_steps 2 65 [.ref l0, .int (l1 + 1)] [] rfl ?_
      exact ih _ _ _ _ h
noncomputable def f16_63 (l0 : Nat) (σ : xM) : Option xM :=
  f16_65 1100 l0 0 σ
set_option maxRecDepth 20000 in
set_option maxHeartbeats 1000000 in
theorem e16_63 (d : Nat) (l0 : Nat) (x1 : Value) (σ : xM) (y : xM) (h : f16_63 l0 σ = some y) : Rn (d + 2) 16 63 [.ref l0, x1] [] σ (none, y) := by
  unfold f16_63 at h
  refine rn_steps 2 65 [.ref l0, .int 0] [] rfl ?_
  exact e16_65 d 1100 _ _ _ _ h
noncomputable def f16_38 : Nat → Nat → Int32 → xM → Option xM
  | 0, _, _, _ => none
  | n + 1, l0, l1, σ =>
    if 16 ≤ l1 then
    f16_63 l0 σ
    else
    (gR σ l0 2 3).bind fun r1 =>
    (nO σ 4).bind fun σ2 =>
    (f45 (mN σ) σ2).bind fun y3 =>
    (tR y3 r1 l1 (mN σ)).bind fun σ4 =>
    (f16_38 n) l0 (l1 + 1) σ4
set_option maxRecDepth 20000 in
set_option maxHeartbeats 1000000 in
theorem e16_38 (d : Nat) : ∀ (n : Nat) (l0 : Nat) (l1 : Int32) (σ : xM) (y : xM), f16_38 n l0 l1 σ = some y → Rn (d + 2) 16 38 [.ref l0, .int l1] [] σ (none, y) := by
  intro n
  induction n with
  | zero => intro l0 l1 σ y h; cases h
  | succ n ih =>
    intro l0 l1 σ y h
    unfold f16_38 at h
    refine rn_steps 2 41 [.ref l0, .int l1] [.int 16, .int l1] rfl ?_
    refine rn_br (c := 16 ≤ l1) rfl rfl decide_eq_true_iff (fun hb => ?_) (fun hb => ?_)
    · rw [if_pos hb] at h
      refine rn_steps 0 63 [.ref l0, .int l1] [] rfl ?_
      exact e16_63 d _ _ _ _ h
    · rw [if_neg hb] at h
      refine rn_steps 1 45 [.ref l0, .int l1] [.ref l0] rfl ?_
      obtain ⟨r1, hr1, h⟩ := Option.bind_eq_some_iff.mp h
      refine rn_gR (c := 2) (f := 3) rfl rfl ⟨⟨rfl, rfl⟩, rfl⟩ hr1 ?_
      refine rn_steps 1 49 [.ref l0, .int l1] [.int l1, .ref r1] rfl ?_
      obtain ⟨σ2, hσ2, h⟩ := Option.bind_eq_some_iff.mp h
      refine rn_nO rfl hσ2 ?_
      refine rn_steps 1 53 [.ref l0, .int l1] [.ref (mN σ), .ref (mN σ), .int l1, .ref r1] rfl ?_
      obtain ⟨y3, hy3, h⟩ := Option.bind_eq_some_iff.mp h
      refine rn_callI [] rfl rfl rfl rfl rfl rfl (e45 d hy3) ?_
      refine rn_steps 0 56 [.ref l0, .int l1] [.ref (mN σ), .int l1, .ref r1] rfl ?_
      obtain ⟨σ4, hσ4, h⟩ := Option.bind_eq_some_iff.mp h
      refine rn_tR rfl hσ4 ?_
      refine rn_steps 2 38 [.ref l0, .int (l1 + 1)] [] rfl ?_
      exact ih _ _ _ _ h
/-- LastAsked$Past.<init>()V -/
noncomputable def f16 (l0 : Nat) (σ : xM) : Option xM :=
  (pI σ l0 2 0 0).bind fun σ1 =>
  (pI σ1 l0 2 1 0).bind fun σ2 =>
  (pI σ2 l0 2 2 0).bind fun σ3 =>
  (nA σ3 13 16).bind fun σ4 =>
  (pR σ4 l0 2 3 (mN σ3)).bind fun σ5 =>
  (nA σ5 13 3).bind fun σ6 =>
  (pR σ6 l0 2 4 (mN σ5)).bind fun σ7 =>
  f16_38 1100 l0 0 σ7
set_option maxRecDepth 20000 in
set_option maxHeartbeats 1000000 in
theorem e16 (d : Nat) {l0 : Nat} {σ : xM} {y : xM} (h : f16 l0 σ = some y) : Rn (d + 2) 16 0 [.ref l0, .retAddr 0] [] σ (none, y) := by
  unfold f16 at h
  refine rn_steps 4 6 [.ref l0, .retAddr 0] [.int 0, .ref l0] rfl ?_
  obtain ⟨σ1, hσ1, h⟩ := Option.bind_eq_some_iff.mp h
  refine rn_pI (c := 2) (f := 0) rfl rfl ⟨⟨rfl, rfl⟩, rfl⟩ hσ1 ?_
  refine rn_steps 2 11 [.ref l0, .retAddr 0] [.int 0, .ref l0] rfl ?_
  obtain ⟨σ2, hσ2, h⟩ := Option.bind_eq_some_iff.mp h
  refine rn_pI (c := 2) (f := 1) rfl rfl ⟨⟨rfl, rfl⟩, rfl⟩ hσ2 ?_
  refine rn_steps 2 16 [.ref l0, .retAddr 0] [.int 0, .ref l0] rfl ?_
  obtain ⟨σ3, hσ3, h⟩ := Option.bind_eq_some_iff.mp h
  refine rn_pI (c := 2) (f := 2) rfl rfl ⟨⟨rfl, rfl⟩, rfl⟩ hσ3 ?_
  refine rn_steps 2 22 [.ref l0, .retAddr 0] [.int 16, .ref l0] rfl ?_
  obtain ⟨σ4, hσ4, h⟩ := Option.bind_eq_some_iff.mp h
  refine rn_nR rfl hσ4 ?_
  refine rn_steps 0 25 [.ref l0, .retAddr 0] [.ref (mN σ3), .ref l0] rfl ?_
  obtain ⟨σ5, hσ5, h⟩ := Option.bind_eq_some_iff.mp h
  refine rn_pR (c := 2) (f := 3) rfl rfl ⟨⟨rfl, rfl⟩, rfl⟩ hσ5 ?_
  refine rn_steps 2 30 [.ref l0, .retAddr 0] [.int 3, .ref l0] rfl ?_
  obtain ⟨σ6, hσ6, h⟩ := Option.bind_eq_some_iff.mp h
  refine rn_nR rfl hσ6 ?_
  refine rn_steps 0 33 [.ref l0, .retAddr 0] [.ref (mN σ5), .ref l0] rfl ?_
  obtain ⟨σ7, hσ7, h⟩ := Option.bind_eq_some_iff.mp h
  refine rn_pR (c := 2) (f := 4) rfl rfl ⟨⟨rfl, rfl⟩, rfl⟩ hσ7 ?_
  refine rn_steps 2 38 [.ref l0, .int 0] [] rfl ?_
  exact e16_38 d 1100 _ _ _ _ h
/-- LastAsked$Past.forget()V -/
noncomputable def f17 (l0 : Nat) (σ : xM) : Option xM :=
  (pI σ l0 2 0 0).bind fun σ1 =>
  (pI σ1 l0 2 1 0).bind fun σ2 =>
  some σ2
set_option maxRecDepth 20000 in
set_option maxHeartbeats 1000000 in
theorem e17 (d : Nat) {l0 : Nat} {σ : xM} {y : xM} (h : f17 l0 σ = some y) : Rn (d + 0) 17 0 [.ref l0] [] σ (none, y) := by
  unfold f17 at h
  refine rn_steps 2 2 [.ref l0] [.int 0, .ref l0] rfl ?_
  obtain ⟨σ1, hσ1, h⟩ := Option.bind_eq_some_iff.mp h
  refine rn_pI (c := 2) (f := 0) rfl rfl ⟨⟨rfl, rfl⟩, rfl⟩ hσ1 ?_
  refine rn_steps 2 7 [.ref l0] [.int 0, .ref l0] rfl ?_
  obtain ⟨σ2, hσ2, h⟩ := Option.bind_eq_some_iff.mp h
  refine rn_pI (c := 2) (f := 1) rfl rfl ⟨⟨rfl, rfl⟩, rfl⟩ hσ2 ?_
  refine rn_steps 0 10 [.ref l0] [] rfl ?_
  cases h
  exact rn_ret rfl rfl rfl
/-- LastAsked$State.copy(LLastAsked$State;)V -/
noncomputable def f47 (l0 : Nat) (l1 : Nat) (σ : xM) : Option xM :=
  (gI σ l1 4 0).bind fun v1 =>
  (pI σ l0 4 0 v1).bind fun σ2 =>
  (gI σ2 l1 4 1).bind fun v3 =>
  (pI σ2 l0 4 1 v3).bind fun σ4 =>
  (gI σ4 l1 4 2).bind fun v5 =>
  (pI σ4 l0 4 2 v5).bind fun σ6 =>
  (gI σ6 l1 4 3).bind fun v7 =>
  (pI σ6 l0 4 3 v7).bind fun σ8 =>
  (gI σ8 l1 4 4).bind fun v9 =>
  (pI σ8 l0 4 4 v9).bind fun σ10 =>
  (gR σ10 l1 4 5).bind fun r11 =>
  (gR σ10 l0 4 5).bind fun r12 =>
  (cp σ10 r11 0 r12 0 6).bind fun σ13 =>
  (gR σ13 l1 4 6).bind fun r14 =>
  (gR σ13 l0 4 6).bind fun r15 =>
  (cp σ13 r14 0 r15 0 36).bind fun σ16 =>
  some σ16
set_option maxRecDepth 20000 in
set_option maxHeartbeats 1000000 in
theorem e47 (d : Nat) {l0 : Nat} {l1 : Nat} {σ : xM} {y : xM} (h : f47 l0 l1 σ = some y) : Rn (d + 1) 47 0 [.ref l0, .ref l1] [] σ (none, y) := by
  unfold f47 at h
  refine rn_steps 2 2 [.ref l0, .ref l1] [.ref l1, .ref l0] rfl ?_
  obtain ⟨v1, hv1, h⟩ := Option.bind_eq_some_iff.mp h
  refine rn_gI (c := 4) (f := 0) rfl rfl ⟨⟨rfl, rfl⟩, Or.inl rfl⟩ hv1 ?_
  refine rn_steps 0 5 [.ref l0, .ref l1] [.int v1, .ref l0] rfl ?_
  obtain ⟨σ2, hσ2, h⟩ := Option.bind_eq_some_iff.mp h
  refine rn_pI (c := 4) (f := 0) rfl rfl ⟨⟨rfl, rfl⟩, rfl⟩ hσ2 ?_
  refine rn_steps 2 10 [.ref l0, .ref l1] [.ref l1, .ref l0] rfl ?_
  obtain ⟨v3, hv3, h⟩ := Option.bind_eq_some_iff.mp h
  refine rn_gI (c := 4) (f := 1) rfl rfl ⟨⟨rfl, rfl⟩, Or.inl rfl⟩ hv3 ?_
  refine rn_steps 0 13 [.ref l0, .ref l1] [.int v3, .ref l0] rfl ?_
  obtain ⟨σ4, hσ4, h⟩ := Option.bind_eq_some_iff.mp h
  refine rn_pI (c := 4) (f := 1) rfl rfl ⟨⟨rfl, rfl⟩, rfl⟩ hσ4 ?_
  refine rn_steps 2 18 [.ref l0, .ref l1] [.ref l1, .ref l0] rfl ?_
  obtain ⟨v5, hv5, h⟩ := Option.bind_eq_some_iff.mp h
  refine rn_gI (c := 4) (f := 2) rfl rfl ⟨⟨rfl, rfl⟩, Or.inl rfl⟩ hv5 ?_
  refine rn_steps 0 21 [.ref l0, .ref l1] [.int v5, .ref l0] rfl ?_
  obtain ⟨σ6, hσ6, h⟩ := Option.bind_eq_some_iff.mp h
  refine rn_pI (c := 4) (f := 2) rfl rfl ⟨⟨rfl, rfl⟩, rfl⟩ hσ6 ?_
  refine rn_steps 2 26 [.ref l0, .ref l1] [.ref l1, .ref l0] rfl ?_
  obtain ⟨v7, hv7, h⟩ := Option.bind_eq_some_iff.mp h
  refine rn_gI (c := 4) (f := 3) rfl rfl ⟨⟨rfl, rfl⟩, Or.inl rfl⟩ hv7 ?_
  refine rn_steps 0 29 [.ref l0, .ref l1] [.int v7, .ref l0] rfl ?_
  obtain ⟨σ8, hσ8, h⟩ := Option.bind_eq_some_iff.mp h
  refine rn_pI (c := 4) (f := 3) rfl rfl ⟨⟨rfl, rfl⟩, rfl⟩ hσ8 ?_
  refine rn_steps 2 34 [.ref l0, .ref l1] [.ref l1, .ref l0] rfl ?_
  obtain ⟨v9, hv9, h⟩ := Option.bind_eq_some_iff.mp h
  refine rn_gI (c := 4) (f := 4) rfl rfl ⟨⟨rfl, rfl⟩, Or.inl rfl⟩ hv9 ?_
  refine rn_steps 0 37 [.ref l0, .ref l1] [.int v9, .ref l0] rfl ?_
  obtain ⟨σ10, hσ10, h⟩ := Option.bind_eq_some_iff.mp h
  refine rn_pI (c := 4) (f := 4) rfl rfl ⟨⟨rfl, rfl⟩, rfl⟩ hσ10 ?_
  refine rn_steps 1 41 [.ref l0, .ref l1] [.ref l1] rfl ?_
  obtain ⟨r11, hr11, h⟩ := Option.bind_eq_some_iff.mp h
  refine rn_gR (c := 4) (f := 5) rfl rfl ⟨⟨rfl, rfl⟩, rfl⟩ hr11 ?_
  refine rn_steps 2 46 [.ref l0, .ref l1] [.ref l0, .int 0, .ref r11] rfl ?_
  obtain ⟨r12, hr12, h⟩ := Option.bind_eq_some_iff.mp h
  refine rn_gR (c := 4) (f := 5) rfl rfl ⟨⟨rfl, rfl⟩, rfl⟩ hr12 ?_
  refine rn_steps 2 52 [.ref l0, .ref l1] [.int 6, .int 0, .ref r12, .int 0, .ref r11] rfl ?_
  obtain ⟨σ13, hσ13, h⟩ := Option.bind_eq_some_iff.mp h
  refine rn_cp rfl rfl hσ13 ?_
  refine rn_steps 1 56 [.ref l0, .ref l1] [.ref l1] rfl ?_
  obtain ⟨r14, hr14, h⟩ := Option.bind_eq_some_iff.mp h
  refine rn_gR (c := 4) (f := 6) rfl rfl ⟨⟨rfl, rfl⟩, rfl⟩ hr14 ?_
  refine rn_steps 2 61 [.ref l0, .ref l1] [.ref l0, .int 0, .ref r14] rfl ?_
  obtain ⟨r15, hr15, h⟩ := Option.bind_eq_some_iff.mp h
  refine rn_gR (c := 4) (f := 6) rfl rfl ⟨⟨rfl, rfl⟩, rfl⟩ hr15 ?_
  refine rn_steps 2 67 [.ref l0, .ref l1] [.int 36, .int 0, .ref r15, .int 0, .ref r14] rfl ?_
  obtain ⟨σ16, hσ16, h⟩ := Option.bind_eq_some_iff.mp h
  refine rn_cp rfl rfl hσ16 ?_
  refine rn_steps 0 70 [.ref l0, .ref l1] [] rfl ?_
  cases h
  exact rn_ret rfl rfl rfl
/-- LastAsked$Past.keep(LLastAsked$State;)V -/
noncomputable def f18 (l0 : Nat) (l1 : Nat) (σ : xM) : Option xM :=
  (gR σ l0 2 3).bind fun r1 =>
  (gI σ l0 2 2).bind fun v2 =>
  (aR σ r1 v2).bind fun v3 =>
  (cO σ v3 4).bind fun u10 =>
  (f47 v3 l1 σ).bind fun y4 =>
  (gI y4 l0 2 2).bind fun v5 =>
  (rI (v5 + 1) 16).bind fun v6 =>
  (pI y4 l0 2 2 v6).bind fun σ7 =>
  (gI σ7 l0 2 0).bind fun v8 =>
  (pI σ7 l0 2 0 (if (v8 + 1) < 16 then (v8 + 1) else 16)).bind fun σ9 =>
  some σ9
set_option maxRecDepth 20000 in
set_option maxHeartbeats 1000000 in
theorem e18 (d : Nat) {l0 : Nat} {l1 : Nat} {σ : xM} {y : xM} (h : f18 l0 l1 σ = some y) : Rn (d + 2) 18 0 [.ref l0, .ref l1] [] σ (none, y) := by
  unfold f18 at h
  refine rn_steps 1 1 [.ref l0, .ref l1] [.ref l0] rfl ?_
  obtain ⟨r1, hr1, h⟩ := Option.bind_eq_some_iff.mp h
  refine rn_gR (c := 2) (f := 3) rfl rfl ⟨⟨rfl, rfl⟩, rfl⟩ hr1 ?_
  refine rn_steps 1 5 [.ref l0, .ref l1] [.ref l0, .ref r1] rfl ?_
  obtain ⟨v2, hv2, h⟩ := Option.bind_eq_some_iff.mp h
  refine rn_gI (c := 2) (f := 2) rfl rfl ⟨⟨rfl, rfl⟩, Or.inl rfl⟩ hv2 ?_
  refine rn_steps 0 8 [.ref l0, .ref l1] [.int v2, .ref r1] rfl ?_
  obtain ⟨v3, hv3, h⟩ := Option.bind_eq_some_iff.mp h
  refine rn_aR rfl hv3 ?_
  refine rn_steps 1 10 [.ref l0, .ref l1] [.ref l1, .ref v3] rfl ?_
  obtain ⟨u10, hu10, h⟩ := Option.bind_eq_some_iff.mp h
  obtain ⟨y4, hy4, h⟩ := Option.bind_eq_some_iff.mp h
  refine rn_callV [.ref l1] rfl rfl ⟨rfl, rfl⟩ hu10 rfl rfl (e47 d hy4) ?_
  refine rn_steps 2 15 [.ref l0, .ref l1] [.ref l0, .ref l0] rfl ?_
  obtain ⟨v5, hv5, h⟩ := Option.bind_eq_some_iff.mp h
  refine rn_gI (c := 2) (f := 2) rfl rfl ⟨⟨rfl, rfl⟩, Or.inl rfl⟩ hv5 ?_
  refine rn_steps 3 22 [.ref l0, .ref l1] [.int 16, .int (v5 + 1), .ref l0] rfl ?_
  obtain ⟨v6, hv6, h⟩ := Option.bind_eq_some_iff.mp h
  refine rn_rI rfl hv6 ?_
  refine rn_steps 0 23 [.ref l0, .ref l1] [.int v6, .ref l0] rfl ?_
  obtain ⟨σ7, hσ7, h⟩ := Option.bind_eq_some_iff.mp h
  refine rn_pI (c := 2) (f := 2) rfl rfl ⟨⟨rfl, rfl⟩, rfl⟩ hσ7 ?_
  refine rn_steps 3 30 [.ref l0, .ref l1] [.ref l0, .int 16, .ref l0] rfl ?_
  obtain ⟨v8, hv8, h⟩ := Option.bind_eq_some_iff.mp h
  refine rn_gI (c := 2) (f := 0) rfl rfl ⟨⟨rfl, rfl⟩, Or.inl rfl⟩ hv8 ?_
  refine rn_steps 3 38 [.ref l0, .ref l1] [.int (if (v8 + 1) < 16 then (v8 + 1) else 16), .ref l0] rfl ?_
  obtain ⟨σ9, hσ9, h⟩ := Option.bind_eq_some_iff.mp h
  refine rn_pI (c := 2) (f := 0) rfl rfl ⟨⟨rfl, rfl⟩, rfl⟩ hσ9 ?_
  refine rn_steps 0 41 [.ref l0, .ref l1] [] rfl ?_
  cases h
  exact rn_ret rfl rfl rfl
/-- LastAsked$Past.takeBack(LLastAsked$State;)Z -/
noncomputable def f19 (l0 : Nat) (l1 : Nat) (σ : xM) : Option (Int32 × xM) :=
  (gI σ l0 2 0).bind fun v1 =>
  if v1 = 0 then
  rZ 0 σ
  else
  (gI σ l0 2 0).bind fun v2 =>
  (pI σ l0 2 0 (v2 - 1)).bind fun σ3 =>
  (gI σ3 l0 2 2).bind fun v4 =>
  (rI ((v4 + 16) - 1) 16).bind fun v5 =>
  (pI σ3 l0 2 2 v5).bind fun σ6 =>
  (gR σ6 l0 2 3).bind fun r7 =>
  (gI σ6 l0 2 2).bind fun v8 =>
  (aR σ6 r7 v8).bind fun v9 =>
  (cO σ6 l1 4).bind fun u11 =>
  (f47 l1 v9 σ6).bind fun y10 =>
  rZ 1 y10
set_option maxRecDepth 20000 in
set_option maxHeartbeats 1000000 in
theorem e19 (d : Nat) {l0 : Nat} {l1 : Nat} {σ : xM} {y : Int32 × xM} (h : f19 l0 l1 σ = some y) : Rn (d + 2) 19 0 [.ref l0, .ref l1] [] σ (some (.int y.1), y.2) := by
  unfold f19 at h
  refine rn_steps 1 1 [.ref l0, .ref l1] [.ref l0] rfl ?_
  obtain ⟨v1, hv1, h⟩ := Option.bind_eq_some_iff.mp h
  refine rn_gI (c := 2) (f := 0) rfl rfl ⟨⟨rfl, rfl⟩, Or.inl rfl⟩ hv1 ?_
  refine rn_steps 0 4 [.ref l0, .ref l1] [.int v1] rfl ?_
  refine rn_br (c := ¬ v1 = 0) rfl rfl decide_eq_true_iff (fun hb => ?_) (fun hb => ?_)
  · rw [if_neg hb] at h
    refine rn_steps 2 11 [.ref l0, .ref l1] [.ref l0, .ref l0] rfl ?_
    obtain ⟨v2, hv2, h⟩ := Option.bind_eq_some_iff.mp h
    refine rn_gI (c := 2) (f := 0) rfl rfl ⟨⟨rfl, rfl⟩, Or.inl rfl⟩ hv2 ?_
    refine rn_steps 2 16 [.ref l0, .ref l1] [.int (v2 - 1), .ref l0] rfl ?_
    obtain ⟨σ3, hσ3, h⟩ := Option.bind_eq_some_iff.mp h
    refine rn_pI (c := 2) (f := 0) rfl rfl ⟨⟨rfl, rfl⟩, rfl⟩ hσ3 ?_
    refine rn_steps 2 21 [.ref l0, .ref l1] [.ref l0, .ref l0] rfl ?_
    obtain ⟨v4, hv4, h⟩ := Option.bind_eq_some_iff.mp h
    refine rn_gI (c := 2) (f := 2) rfl rfl ⟨⟨rfl, rfl⟩, Or.inl rfl⟩ hv4 ?_
    refine rn_steps 5 31 [.ref l0, .ref l1] [.int 16, .int ((v4 + 16) - 1), .ref l0] rfl ?_
    obtain ⟨v5, hv5, h⟩ := Option.bind_eq_some_iff.mp h
    refine rn_rI rfl hv5 ?_
    refine rn_steps 0 32 [.ref l0, .ref l1] [.int v5, .ref l0] rfl ?_
    obtain ⟨σ6, hσ6, h⟩ := Option.bind_eq_some_iff.mp h
    refine rn_pI (c := 2) (f := 2) rfl rfl ⟨⟨rfl, rfl⟩, rfl⟩ hσ6 ?_
    refine rn_steps 2 37 [.ref l0, .ref l1] [.ref l0, .ref l1] rfl ?_
    obtain ⟨r7, hr7, h⟩ := Option.bind_eq_some_iff.mp h
    refine rn_gR (c := 2) (f := 3) rfl rfl ⟨⟨rfl, rfl⟩, rfl⟩ hr7 ?_
    refine rn_steps 1 41 [.ref l0, .ref l1] [.ref l0, .ref r7, .ref l1] rfl ?_
    obtain ⟨v8, hv8, h⟩ := Option.bind_eq_some_iff.mp h
    refine rn_gI (c := 2) (f := 2) rfl rfl ⟨⟨rfl, rfl⟩, Or.inl rfl⟩ hv8 ?_
    refine rn_steps 0 44 [.ref l0, .ref l1] [.int v8, .ref r7, .ref l1] rfl ?_
    obtain ⟨v9, hv9, h⟩ := Option.bind_eq_some_iff.mp h
    refine rn_aR rfl hv9 ?_
    refine rn_steps 0 45 [.ref l0, .ref l1] [.ref v9, .ref l1] rfl ?_
    obtain ⟨u11, hu11, h⟩ := Option.bind_eq_some_iff.mp h
    obtain ⟨y10, hy10, h⟩ := Option.bind_eq_some_iff.mp h
    refine rn_callV [.ref v9] rfl rfl ⟨rfl, rfl⟩ hu11 rfl rfl (e47 d hy10) ?_
    refine rn_steps 1 49 [.ref l0, .ref l1] [.int 1] rfl ?_
    exact rn_retZ rfl rfl h
  · rw [if_pos (Decidable.not_not.mp hb)] at h
    refine rn_steps 1 8 [.ref l0, .ref l1] [.int 0] rfl ?_
    exact rn_retZ rfl rfl h
/-- LastAsked$Past.addImage(LLastAsked$State;)I -/
noncomputable def f20 (l0 : Nat) (l1 : Nat) (σ : xM) : Option (Int32 × xM) :=
  (gI σ l0 2 1).bind fun v1 =>
  if v1 < 3 then
  (gR σ l0 2 4).bind fun r2 =>
  (gI σ l0 2 1).bind fun v3 =>
  (aR σ r2 v3).bind fun v4 =>
  (cO σ v4 4).bind fun u9 =>
  (f47 v4 l1 σ).bind fun y5 =>
  (gI y5 l0 2 1).bind fun v6 =>
  (pI y5 l0 2 1 (v6 + 1)).bind fun σ7 =>
  (gI σ7 l0 2 1).bind fun v8 =>
  some ((v8 - 1), σ7)
  else
  some ((-1), σ)
set_option maxRecDepth 20000 in
set_option maxHeartbeats 1000000 in
theorem e20 (d : Nat) {l0 : Nat} {l1 : Nat} {σ : xM} {y : Int32 × xM} (h : f20 l0 l1 σ = some y) : Rn (d + 2) 20 0 [.ref l0, .ref l1] [] σ (some (.int y.1), y.2) := by
  unfold f20 at h
  refine rn_steps 1 1 [.ref l0, .ref l1] [.ref l0] rfl ?_
  obtain ⟨v1, hv1, h⟩ := Option.bind_eq_some_iff.mp h
  refine rn_gI (c := 2) (f := 1) rfl rfl ⟨⟨rfl, rfl⟩, Or.inl rfl⟩ hv1 ?_
  refine rn_steps 1 5 [.ref l0, .ref l1] [.int 3, .int v1] rfl ?_
  refine rn_br (c := v1 < 3) rfl rfl decide_eq_true_iff (fun hb => ?_) (fun hb => ?_)
  · rw [if_pos hb] at h
    refine rn_steps 1 11 [.ref l0, .ref l1] [.ref l0] rfl ?_
    obtain ⟨r2, hr2, h⟩ := Option.bind_eq_some_iff.mp h
    refine rn_gR (c := 2) (f := 4) rfl rfl ⟨⟨rfl, rfl⟩, rfl⟩ hr2 ?_
    refine rn_steps 1 15 [.ref l0, .ref l1] [.ref l0, .ref r2] rfl ?_
    obtain ⟨v3, hv3, h⟩ := Option.bind_eq_some_iff.mp h
    refine rn_gI (c := 2) (f := 1) rfl rfl ⟨⟨rfl, rfl⟩, Or.inl rfl⟩ hv3 ?_
    refine rn_steps 0 18 [.ref l0, .ref l1] [.int v3, .ref r2] rfl ?_
    obtain ⟨v4, hv4, h⟩ := Option.bind_eq_some_iff.mp h
    refine rn_aR rfl hv4 ?_
    refine rn_steps 1 20 [.ref l0, .ref l1] [.ref l1, .ref v4] rfl ?_
    obtain ⟨u9, hu9, h⟩ := Option.bind_eq_some_iff.mp h
    obtain ⟨y5, hy5, h⟩ := Option.bind_eq_some_iff.mp h
    refine rn_callV [.ref l1] rfl rfl ⟨rfl, rfl⟩ hu9 rfl rfl (e47 d hy5) ?_
    refine rn_steps 2 25 [.ref l0, .ref l1] [.ref l0, .ref l0] rfl ?_
    obtain ⟨v6, hv6, h⟩ := Option.bind_eq_some_iff.mp h
    refine rn_gI (c := 2) (f := 1) rfl rfl ⟨⟨rfl, rfl⟩, Or.inl rfl⟩ hv6 ?_
    refine rn_steps 2 30 [.ref l0, .ref l1] [.int (v6 + 1), .ref l0] rfl ?_
    obtain ⟨σ7, hσ7, h⟩ := Option.bind_eq_some_iff.mp h
    refine rn_pI (c := 2) (f := 1) rfl rfl ⟨⟨rfl, rfl⟩, rfl⟩ hσ7 ?_
    refine rn_steps 1 34 [.ref l0, .ref l1] [.ref l0] rfl ?_
    obtain ⟨v8, hv8, h⟩ := Option.bind_eq_some_iff.mp h
    refine rn_gI (c := 2) (f := 1) rfl rfl ⟨⟨rfl, rfl⟩, Or.inl rfl⟩ hv8 ?_
    refine rn_steps 2 39 [.ref l0, .ref l1] [.int (v8 - 1)] rfl ?_
    cases h
    exact rn_ret rfl rfl rfl
  · rw [if_neg hb] at h
    refine rn_steps 1 9 [.ref l0, .ref l1] [.int (-1)] rfl ?_
    cases h
    exact rn_ret rfl rfl rfl
noncomputable def f21_12 (σ : xM) : Option (Int32 × xM) :=
  rZ 0 σ
set_option maxRecDepth 20000 in
set_option maxHeartbeats 1000000 in
theorem e21_12 (d : Nat) (x0 x1 x2 : Value) (σ : xM) (y : Int32 × xM) (h : f21_12 σ = some y) : Rn (d + 2) 21 12 [x0, x1, x2] [] σ (some (.int y.1), y.2) := by
  unfold f21_12 at h
  refine rn_steps 1 13 [x0, x1, x2] [.int 0] rfl ?_
  exact rn_retZ rfl rfl h
/-- LastAsked$Past.showImage(ILLastAsked$State;)Z -/
noncomputable def f21 (l0 : Nat) (l1 : Int32) (l2 : Nat) (σ : xM) : Option (Int32 × xM) :=
  if l1 < 0 then
  f21_12 σ
  else
  (gI σ l0 2 1).bind fun v1 =>
  if l1 < v1 then
  (gR σ l0 2 4).bind fun r2 =>
  (aR σ r2 l1).bind fun v3 =>
  (cO σ l2 4).bind fun u6 =>
  (f47 l2 v3 σ).bind fun y4 =>
  (pI y4 l0 2 0 0).bind fun σ5 =>
  rZ 1 σ5
  else
  f21_12 σ
set_option maxRecDepth 20000 in
set_option maxHeartbeats 1000000 in
theorem e21 (d : Nat) {l0 : Nat} {l1 : Int32} {l2 : Nat} {σ : xM} {y : Int32 × xM} (h : f21 l0 l1 l2 σ = some y) : Rn (d + 2) 21 0 [.ref l0, .int l1, .ref l2] [] σ (some (.int y.1), y.2) := by
  unfold f21 at h
  refine rn_steps 1 1 [.ref l0, .int l1, .ref l2] [.int l1] rfl ?_
  refine rn_br (c := l1 < 0) rfl rfl decide_eq_true_iff (fun hb => ?_) (fun hb => ?_)
  · rw [if_pos hb] at h
    refine rn_steps 0 12 [.ref l0, .int l1, .ref l2] [] rfl ?_
    exact e21_12 d _ _ _ _ _ h
  · rw [if_neg hb] at h
    refine rn_steps 2 6 [.ref l0, .int l1, .ref l2] [.ref l0, .int l1] rfl ?_
    obtain ⟨v1, hv1, h⟩ := Option.bind_eq_some_iff.mp h
    refine rn_gI (c := 2) (f := 1) rfl rfl ⟨⟨rfl, rfl⟩, Or.inl rfl⟩ hv1 ?_
    refine rn_steps 0 9 [.ref l0, .int l1, .ref l2] [.int v1, .int l1] rfl ?_
    refine rn_br (c := l1 < v1) rfl rfl decide_eq_true_iff (fun hb => ?_) (fun hb => ?_)
    · rw [if_pos hb] at h
      refine rn_steps 2 16 [.ref l0, .int l1, .ref l2] [.ref l0, .ref l2] rfl ?_
      obtain ⟨r2, hr2, h⟩ := Option.bind_eq_some_iff.mp h
      refine rn_gR (c := 2) (f := 4) rfl rfl ⟨⟨rfl, rfl⟩, rfl⟩ hr2 ?_
      refine rn_steps 1 20 [.ref l0, .int l1, .ref l2] [.int l1, .ref r2, .ref l2] rfl ?_
      obtain ⟨v3, hv3, h⟩ := Option.bind_eq_some_iff.mp h
      refine rn_aR rfl hv3 ?_
      refine rn_steps 0 21 [.ref l0, .int l1, .ref l2] [.ref v3, .ref l2] rfl ?_
      obtain ⟨u6, hu6, h⟩ := Option.bind_eq_some_iff.mp h
      obtain ⟨y4, hy4, h⟩ := Option.bind_eq_some_iff.mp h
      refine rn_callV [.ref v3] rfl rfl ⟨rfl, rfl⟩ hu6 rfl rfl (e47 d hy4) ?_
      refine rn_steps 2 26 [.ref l0, .int l1, .ref l2] [.int 0, .ref l0] rfl ?_
      obtain ⟨σ5, hσ5, h⟩ := Option.bind_eq_some_iff.mp h
      refine rn_pI (c := 2) (f := 0) rfl rfl ⟨⟨rfl, rfl⟩, rfl⟩ hσ5 ?_
      refine rn_steps 1 30 [.ref l0, .int l1, .ref l2] [.int 1] rfl ?_
      exact rn_retZ rfl rfl h
    · rw [if_neg hb] at h
      refine rn_steps 0 12 [.ref l0, .int l1, .ref l2] [] rfl ?_
      exact e21_12 d _ _ _ _ _ h
/-- LastAsked$Reader.<init>()V -/
noncomputable def f22 (l0 : Nat) (σ : xM) : Option xM :=
  (pI σ l0 3 0 0).bind fun σ1 =>
  (pI σ1 l0 3 1 0).bind fun σ2 =>
  (nO σ2 0).bind fun σ3 =>
  (f0 (mN σ2) σ3).bind fun y4 =>
  (pR y4 l0 3 2 (mN σ2)).bind fun σ5 =>
  (pI σ5 l0 3 3 0).bind fun σ6 =>
  (nA σ6 10 900).bind fun σ7 =>
  (pR σ7 l0 3 4 (mN σ6)).bind fun σ8 =>
  (pI σ8 l0 3 5 0).bind fun σ9 =>
  (pI σ9 l0 3 6 0).bind fun σ10 =>
  (pI σ10 l0 3 7 0).bind fun σ11 =>
  (pI σ11 l0 3 8 0).bind fun σ12 =>
  (pI σ12 l0 3 9 0).bind fun σ13 =>
  (pJ σ13 l0 3 10 0).bind fun σ14 =>
  (pZ σ14 l0 3 11 0).bind fun σ15 =>
  (nA σ15 12 6).bind fun σ16 =>
  (pR σ16 l0 3 12 (mN σ15)).bind fun σ17 =>
  some σ17
set_option maxRecDepth 20000 in
set_option maxHeartbeats 1000000 in
theorem e22 (d : Nat) {l0 : Nat} {σ : xM} {y : xM} (h : f22 l0 σ = some y) : Rn (d + 2) 22 0 [.ref l0] [] σ (none, y) := by
  unfold f22 at h
  refine rn_steps 4 6 [.ref l0] [.int 0, .ref l0] rfl ?_
  obtain ⟨σ1, hσ1, h⟩ := Option.bind_eq_some_iff.mp h
  refine rn_pI (c := 3) (f := 0) rfl rfl ⟨⟨rfl, rfl⟩, rfl⟩ hσ1 ?_
  refine rn_steps 2 11 [.ref l0] [.int 0, .ref l0] rfl ?_
  obtain ⟨σ2, hσ2, h⟩ := Option.bind_eq_some_iff.mp h
  refine rn_pI (c := 3) (f := 1) rfl rfl ⟨⟨rfl, rfl⟩, rfl⟩ hσ2 ?_
  refine rn_steps 1 15 [.ref l0] [.ref l0] rfl ?_
  obtain ⟨σ3, hσ3, h⟩ := Option.bind_eq_some_iff.mp h
  refine rn_nO rfl hσ3 ?_
  refine rn_steps 1 19 [.ref l0] [.ref (mN σ2), .ref (mN σ2), .ref l0] rfl ?_
  obtain ⟨y4, hy4, h⟩ := Option.bind_eq_some_iff.mp h
  refine rn_callI [] rfl rfl rfl rfl rfl rfl (e0 d hy4) ?_
  refine rn_steps 0 22 [.ref l0] [.ref (mN σ2), .ref l0] rfl ?_
  obtain ⟨σ5, hσ5, h⟩ := Option.bind_eq_some_iff.mp h
  refine rn_pR (c := 3) (f := 2) rfl rfl ⟨⟨rfl, rfl⟩, rfl⟩ hσ5 ?_
  refine rn_steps 2 27 [.ref l0] [.int 0, .ref l0] rfl ?_
  obtain ⟨σ6, hσ6, h⟩ := Option.bind_eq_some_iff.mp h
  refine rn_pI (c := 3) (f := 3) rfl rfl ⟨⟨rfl, rfl⟩, rfl⟩ hσ6 ?_
  refine rn_steps 2 34 [.ref l0] [.int 900, .ref l0] rfl ?_
  obtain ⟨σ7, hσ7, h⟩ := Option.bind_eq_some_iff.mp h
  refine rn_nA rfl hσ7 ?_
  refine rn_steps 0 36 [.ref l0] [.ref (mN σ6), .ref l0] rfl ?_
  obtain ⟨σ8, hσ8, h⟩ := Option.bind_eq_some_iff.mp h
  refine rn_pR (c := 3) (f := 4) rfl rfl ⟨⟨rfl, rfl⟩, rfl⟩ hσ8 ?_
  refine rn_steps 2 41 [.ref l0] [.int 0, .ref l0] rfl ?_
  obtain ⟨σ9, hσ9, h⟩ := Option.bind_eq_some_iff.mp h
  refine rn_pI (c := 3) (f := 5) rfl rfl ⟨⟨rfl, rfl⟩, rfl⟩ hσ9 ?_
  refine rn_steps 2 46 [.ref l0] [.int 0, .ref l0] rfl ?_
  obtain ⟨σ10, hσ10, h⟩ := Option.bind_eq_some_iff.mp h
  refine rn_pI (c := 3) (f := 6) rfl rfl ⟨⟨rfl, rfl⟩, rfl⟩ hσ10 ?_
  refine rn_steps 2 51 [.ref l0] [.int 0, .ref l0] rfl ?_
  obtain ⟨σ11, hσ11, h⟩ := Option.bind_eq_some_iff.mp h
  refine rn_pI (c := 3) (f := 7) rfl rfl ⟨⟨rfl, rfl⟩, rfl⟩ hσ11 ?_
  refine rn_steps 2 56 [.ref l0] [.int 0, .ref l0] rfl ?_
  obtain ⟨σ12, hσ12, h⟩ := Option.bind_eq_some_iff.mp h
  refine rn_pI (c := 3) (f := 8) rfl rfl ⟨⟨rfl, rfl⟩, rfl⟩ hσ12 ?_
  refine rn_steps 2 61 [.ref l0] [.int 0, .ref l0] rfl ?_
  obtain ⟨σ13, hσ13, h⟩ := Option.bind_eq_some_iff.mp h
  refine rn_pI (c := 3) (f := 9) rfl rfl ⟨⟨rfl, rfl⟩, rfl⟩ hσ13 ?_
  refine rn_steps 2 66 [.ref l0] [.long 0, .ref l0] rfl ?_
  obtain ⟨σ14, hσ14, h⟩ := Option.bind_eq_some_iff.mp h
  refine rn_pJ (c := 3) (f := 10) rfl rfl ⟨⟨rfl, rfl⟩, rfl⟩ hσ14 ?_
  refine rn_steps 2 71 [.ref l0] [.int 0, .ref l0] rfl ?_
  obtain ⟨σ15, hσ15, h⟩ := Option.bind_eq_some_iff.mp h
  refine rn_pZ (c := 3) (f := 11) rfl rfl ⟨⟨rfl, rfl⟩, rfl⟩ hσ15 ?_
  refine rn_steps 2 77 [.ref l0] [.int 6, .ref l0] rfl ?_
  obtain ⟨σ16, hσ16, h⟩ := Option.bind_eq_some_iff.mp h
  refine rn_nA rfl hσ16 ?_
  refine rn_steps 0 79 [.ref l0] [.ref (mN σ15), .ref l0] rfl ?_
  obtain ⟨σ17, hσ17, h⟩ := Option.bind_eq_some_iff.mp h
  refine rn_pR (c := 3) (f := 12) rfl rfl ⟨⟨rfl, rfl⟩, rfl⟩ hσ17 ?_
  refine rn_steps 0 82 [.ref l0] [] rfl ?_
  cases h
  exact rn_ret rfl rfl rfl
noncomputable def f23_46 (σ : xM) : Option xM :=
  some σ
set_option maxRecDepth 20000 in
set_option maxHeartbeats 1000000 in
theorem e23_46 (d : Nat) (x0 x1 x2 : Value) (σ : xM) (y : xM) (h : f23_46 σ = some y) : Rn (d + 0) 23 46 [x0, x1, x2] [] σ (none, y) := by
  unfold f23_46 at h
  cases h
  exact rn_ret rfl rfl rfl
noncomputable def f23_3 : Nat → Nat → Int32 → Int32 → xM → Option xM
  | 0, _, _, _, _ => none
  | n + 1, l0, l1, l2, σ =>
    if l2 < 0 then
    f23_46 σ
    else
    (gI σ l0 3 0).bind fun v1 =>
    if 900 ≤ v1 then
    f23_46 σ
    else
    (gR σ l0 3 4).bind fun r2 =>
    (gI σ l0 3 0).bind fun v3 =>
    (tB σ r2 v3 ((l1 >>> (l2 &&& 31)).toInt8.toInt32)).bind fun σ4 =>
    (gI σ4 l0 3 0).bind fun v5 =>
    (pI σ4 l0 3 0 (v5 + 1)).bind fun σ6 =>
    (f23_3 n) l0 l1 (l2 + (-8)) σ6
set_option maxRecDepth 20000 in
set_option maxHeartbeats 1000000 in
theorem e23_3 (d : Nat) : ∀ (n : Nat) (l0 : Nat) (l1 : Int32) (l2 : Int32) (σ : xM) (y : xM), f23_3 n l0 l1 l2 σ = some y → Rn (d + 0) 23 3 [.ref l0, .int l1, .int l2] [] σ (none, y) := by
  intro n
  induction n with
  | zero => intro l0 l1 l2 σ y h; cases h
  | succ n ih =>
    intro l0 l1 l2 σ y h
    unfold f23_3 at h
    refine rn_steps 1 4 [.ref l0, .int l1, .int l2] [.int l2] rfl ?_
    refine rn_br (c := l2 < 0) rfl rfl decide_eq_true_iff (fun hb => ?_) (fun hb => ?_)
    · rw [if_pos hb] at h
      refine rn_steps 0 46 [.ref l0, .int l1, .int l2] [] rfl ?_
      exact e23_46 d _ _ _ _ _ h
    · rw [if_neg hb] at h
      refine rn_steps 1 8 [.ref l0, .int l1, .int l2] [.ref l0] rfl ?_
      obtain ⟨v1, hv1, h⟩ := Option.bind_eq_some_iff.mp h
      refine rn_gI (c := 3) (f := 0) rfl rfl ⟨⟨rfl, rfl⟩, Or.inl rfl⟩ hv1 ?_
      refine rn_steps 1 14 [.ref l0, .int l1, .int l2] [.int 900, .int v1] rfl ?_
      refine rn_br (c := 900 ≤ v1) rfl rfl decide_eq_true_iff (fun hb => ?_) (fun hb => ?_)
      · rw [if_pos hb] at h
        refine rn_steps 0 46 [.ref l0, .int l1, .int l2] [] rfl ?_
        exact e23_46 d _ _ _ _ _ h
      · rw [if_neg hb] at h
        refine rn_steps 1 18 [.ref l0, .int l1, .int l2] [.ref l0] rfl ?_
        obtain ⟨r2, hr2, h⟩ := Option.bind_eq_some_iff.mp h
        refine rn_gR (c := 3) (f := 4) rfl rfl ⟨⟨rfl, rfl⟩, rfl⟩ hr2 ?_
        refine rn_steps 1 22 [.ref l0, .int l1, .int l2] [.ref l0, .ref r2] rfl ?_
        obtain ⟨v3, hv3, h⟩ := Option.bind_eq_some_iff.mp h
        refine rn_gI (c := 3) (f := 0) rfl rfl ⟨⟨rfl, rfl⟩, Or.inl rfl⟩ hv3 ?_
        refine rn_steps 4 29 [.ref l0, .int l1, .int l2] [.int ((l1 >>> (l2 &&& 31)).toInt8.toInt32), .int v3, .ref r2] rfl ?_
        obtain ⟨σ4, hσ4, h⟩ := Option.bind_eq_some_iff.mp h
        refine rn_tB rfl hσ4 ?_
        refine rn_steps 2 32 [.ref l0, .int l1, .int l2] [.ref l0, .ref l0] rfl ?_
        obtain ⟨v5, hv5, h⟩ := Option.bind_eq_some_iff.mp h
        refine rn_gI (c := 3) (f := 0) rfl rfl ⟨⟨rfl, rfl⟩, Or.inl rfl⟩ hv5 ?_
        refine rn_steps 2 37 [.ref l0, .int l1, .int l2] [.int (v5 + 1), .ref l0] rfl ?_
        obtain ⟨σ6, hσ6, h⟩ := Option.bind_eq_some_iff.mp h
        refine rn_pI (c := 3) (f := 0) rfl rfl ⟨⟨rfl, rfl⟩, rfl⟩ hσ6 ?_
        refine rn_steps 2 3 [.ref l0, .int l1, .int (l2 + (-8))] [] rfl ?_
        exact ih _ _ _ _ _ h
/-- LastAsked$Reader.append(I)V -/
noncomputable def f23 (l0 : Nat) (l1 : Int32) (σ : xM) : Option xM :=
  f23_3 1100 l0 l1 24 σ
set_option maxRecDepth 20000 in
set_option maxHeartbeats 1000000 in
theorem e23 (d : Nat) {l0 : Nat} {l1 : Int32} {σ : xM} {y : xM} (h : f23 l0 l1 σ = some y) : Rn (d + 0) 23 0 [.ref l0, .int l1, .retAddr 0] [] σ (none, y) := by
  unfold f23 at h
  refine rn_steps 2 3 [.ref l0, .int l1, .int 24] [] rfl ?_
  exact e23_3 d 1100 _ _ _ _ _ h
noncomputable def f27_99 (s0 : Int32) (s1 : Nat) (σ : xM) : Option xM :=
  (pI σ s1 3 6 s0).bind fun σ1 =>
  some σ1
set_option maxRecDepth 20000 in
set_option maxHeartbeats 1000000 in
theorem e27_99 (d : Nat) (s0 : Int32) (s1 : Nat) (x0 : Value) (σ : xM) (y : xM) (h : f27_99 s0 s1 σ = some y) : Rn (d + 0) 27 99 [x0] [.int s0, .ref s1] σ (none, y) := by
  unfold f27_99 at h
  obtain ⟨σ1, hσ1, h⟩ := Option.bind_eq_some_iff.mp h
  refine rn_pI (c := 3) (f := 6) rfl rfl ⟨⟨rfl, rfl⟩, rfl⟩ hσ1 ?_
  refine rn_steps 0 102 [x0] [] rfl ?_
  cases h
  exact rn_ret rfl rfl rfl
noncomputable def f27_79 (l0 : Nat) (σ : xM) : Option xM :=
  (gI σ l0 3 8).bind fun v1 =>
  (gI σ l0 3 7).bind fun v2 =>
  if 8 < (v1 - v2) then
  f27_99 4 l0 σ
  else
  f27_99 1 l0 σ
set_option maxRecDepth 20000 in
set_option maxHeartbeats 1000000 in
theorem e27_79 (d : Nat) (l0 : Nat) (σ : xM) (y : xM) (h : f27_79 l0 σ = some y) : Rn (d + 0) 27 79 [.ref l0] [] σ (none, y) := by
  unfold f27_79 at h
  refine rn_steps 2 81 [.ref l0] [.ref l0, .ref l0] rfl ?_
  obtain ⟨v1, hv1, h⟩ := Option.bind_eq_some_iff.mp h
  refine rn_gI (c := 3) (f := 8) rfl rfl ⟨⟨rfl, rfl⟩, Or.inl rfl⟩ hv1 ?_
  refine rn_steps 1 85 [.ref l0] [.ref l0, .int v1, .ref l0] rfl ?_
  obtain ⟨v2, hv2, h⟩ := Option.bind_eq_some_iff.mp h
  refine rn_gI (c := 3) (f := 7) rfl rfl ⟨⟨rfl, rfl⟩, Or.inl rfl⟩ hv2 ?_
  refine rn_steps 2 91 [.ref l0] [.int 8, .int (v1 - v2), .ref l0] rfl ?_
  refine rn_br (c := 8 < (v1 - v2)) rfl rfl decide_eq_true_iff (fun hb => ?_) (fun hb => ?_)
  · rw [if_pos hb] at h
    refine rn_steps 1 99 [.ref l0] [.int 4, .ref l0] rfl ?_
    exact e27_99 d _ _ _ _ _ h
  · rw [if_neg hb] at h
    refine rn_steps 2 99 [.ref l0] [.int 1, .ref l0] rfl ?_
    exact e27_99 d _ _ _ _ _ h
noncomputable def f27_5 : Nat → Nat → xM → Option xM
  | 0, _, _ => none
  | n + 1, l0, σ =>
    (gI σ l0 3 8).bind fun v1 =>
    (gI σ l0 3 5).bind fun v2 =>
    if v2 ≤ v1 then
    f27_79 l0 σ
    else
    (gR σ l0 3 4).bind fun r3 =>
    (gI σ l0 3 8).bind fun v4 =>
    (aB σ r3 v4).bind fun v5 =>
    if v5 < 97 then
    f27_79 l0 σ
    else
    (gR σ l0 3 4).bind fun r6 =>
    (gI σ l0 3 8).bind fun v7 =>
    (aB σ r6 v7).bind fun v8 =>
    if 122 < v8 then
    f27_79 l0 σ
    else
    (gJ σ l0 3 10).bind fun v9 =>
    (gR σ l0 3 4).bind fun r10 =>
    (gI σ l0 3 8).bind fun v11 =>
    (aB σ r10 v11).bind fun v12 =>
    (pJ σ l0 3 10 ((v9 <<< ((8 : Int32).toInt64 &&& 63)) ||| v12.toInt64)).bind fun σ13 =>
    (gI σ13 l0 3 8).bind fun v14 =>
    (pI σ13 l0 3 8 (v14 + 1)).bind fun σ15 =>
    (f27_5 n) l0 σ15
set_option maxRecDepth 20000 in
set_option maxHeartbeats 1000000 in
theorem e27_5 (d : Nat) : ∀ (n : Nat) (l0 : Nat) (σ : xM) (y : xM), f27_5 n l0 σ = some y → Rn (d + 0) 27 5 [.ref l0] [] σ (none, y) := by
  intro n
  induction n with
  | zero => intro l0 σ y h; cases h
  | succ n ih =>
    intro l0 σ y h
    unfold f27_5 at h
    refine rn_steps 1 6 [.ref l0] [.ref l0] rfl ?_
    obtain ⟨v1, hv1, h⟩ := Option.bind_eq_some_iff.mp h
    refine rn_gI (c := 3) (f := 8) rfl rfl ⟨⟨rfl, rfl⟩, Or.inl rfl⟩ hv1 ?_
    refine rn_steps 1 10 [.ref l0] [.ref l0, .int v1] rfl ?_
    obtain ⟨v2, hv2, h⟩ := Option.bind_eq_some_iff.mp h
    refine rn_gI (c := 3) (f := 5) rfl rfl ⟨⟨rfl, rfl⟩, Or.inl rfl⟩ hv2 ?_
    refine rn_steps 0 13 [.ref l0] [.int v2, .int v1] rfl ?_
    refine rn_br (c := v2 ≤ v1) rfl rfl decide_eq_true_iff (fun hb => ?_) (fun hb => ?_)
    · rw [if_pos hb] at h
      refine rn_steps 0 79 [.ref l0] [] rfl ?_
      exact e27_79 d _ _ _ h
    · rw [if_neg hb] at h
      refine rn_steps 1 17 [.ref l0] [.ref l0] rfl ?_
      obtain ⟨r3, hr3, h⟩ := Option.bind_eq_some_iff.mp h
      refine rn_gR (c := 3) (f := 4) rfl rfl ⟨⟨rfl, rfl⟩, rfl⟩ hr3 ?_
      refine rn_steps 1 21 [.ref l0] [.ref l0, .ref r3] rfl ?_
      obtain ⟨v4, hv4, h⟩ := Option.bind_eq_some_iff.mp h
      refine rn_gI (c := 3) (f := 8) rfl rfl ⟨⟨rfl, rfl⟩, Or.inl rfl⟩ hv4 ?_
      refine rn_steps 0 24 [.ref l0] [.int v4, .ref r3] rfl ?_
      obtain ⟨v5, hv5, h⟩ := Option.bind_eq_some_iff.mp h
      refine rn_aB rfl hv5 ?_
      refine rn_steps 1 27 [.ref l0] [.int 97, .int v5] rfl ?_
      refine rn_br (c := v5 < 97) rfl rfl decide_eq_true_iff (fun hb => ?_) (fun hb => ?_)
      · rw [if_pos hb] at h
        refine rn_steps 0 79 [.ref l0] [] rfl ?_
        exact e27_79 d _ _ _ h
      · rw [if_neg hb] at h
        refine rn_steps 1 31 [.ref l0] [.ref l0] rfl ?_
        obtain ⟨r6, hr6, h⟩ := Option.bind_eq_some_iff.mp h
        refine rn_gR (c := 3) (f := 4) rfl rfl ⟨⟨rfl, rfl⟩, rfl⟩ hr6 ?_
        refine rn_steps 1 35 [.ref l0] [.ref l0, .ref r6] rfl ?_
        obtain ⟨v7, hv7, h⟩ := Option.bind_eq_some_iff.mp h
        refine rn_gI (c := 3) (f := 8) rfl rfl ⟨⟨rfl, rfl⟩, Or.inl rfl⟩ hv7 ?_
        refine rn_steps 0 38 [.ref l0] [.int v7, .ref r6] rfl ?_
        obtain ⟨v8, hv8, h⟩ := Option.bind_eq_some_iff.mp h
        refine rn_aB rfl hv8 ?_
        refine rn_steps 1 41 [.ref l0] [.int 122, .int v8] rfl ?_
        refine rn_br (c := 122 < v8) rfl rfl decide_eq_true_iff (fun hb => ?_) (fun hb => ?_)
        · rw [if_pos hb] at h
          refine rn_steps 0 79 [.ref l0] [] rfl ?_
          exact e27_79 d _ _ _ h
        · rw [if_neg hb] at h
          refine rn_steps 2 46 [.ref l0] [.ref l0, .ref l0] rfl ?_
          obtain ⟨v9, hv9, h⟩ := Option.bind_eq_some_iff.mp h
          refine rn_gJ (c := 3) (f := 10) rfl rfl ⟨⟨rfl, rfl⟩, rfl⟩ hv9 ?_
          refine rn_steps 3 53 [.ref l0] [.ref l0, .long (v9 <<< ((8 : Int32).toInt64 &&& 63)), .ref l0] rfl ?_
          obtain ⟨r10, hr10, h⟩ := Option.bind_eq_some_iff.mp h
          refine rn_gR (c := 3) (f := 4) rfl rfl ⟨⟨rfl, rfl⟩, rfl⟩ hr10 ?_
          refine rn_steps 1 57 [.ref l0] [.ref l0, .ref r10, .long (v9 <<< ((8 : Int32).toInt64 &&& 63)), .ref l0] rfl ?_
          obtain ⟨v11, hv11, h⟩ := Option.bind_eq_some_iff.mp h
          refine rn_gI (c := 3) (f := 8) rfl rfl ⟨⟨rfl, rfl⟩, Or.inl rfl⟩ hv11 ?_
          refine rn_steps 0 60 [.ref l0] [.int v11, .ref r10, .long (v9 <<< ((8 : Int32).toInt64 &&& 63)), .ref l0] rfl ?_
          obtain ⟨v12, hv12, h⟩ := Option.bind_eq_some_iff.mp h
          refine rn_aB rfl hv12 ?_
          refine rn_steps 2 63 [.ref l0] [.long ((v9 <<< ((8 : Int32).toInt64 &&& 63)) ||| v12.toInt64), .ref l0] rfl ?_
          obtain ⟨σ13, hσ13, h⟩ := Option.bind_eq_some_iff.mp h
          refine rn_pJ (c := 3) (f := 10) rfl rfl ⟨⟨rfl, rfl⟩, rfl⟩ hσ13 ?_
          refine rn_steps 2 68 [.ref l0] [.ref l0, .ref l0] rfl ?_
          obtain ⟨v14, hv14, h⟩ := Option.bind_eq_some_iff.mp h
          refine rn_gI (c := 3) (f := 8) rfl rfl ⟨⟨rfl, rfl⟩, Or.inl rfl⟩ hv14 ?_
          refine rn_steps 2 73 [.ref l0] [.int (v14 + 1), .ref l0] rfl ?_
          obtain ⟨σ15, hσ15, h⟩ := Option.bind_eq_some_iff.mp h
          refine rn_pI (c := 3) (f := 8) rfl rfl ⟨⟨rfl, rfl⟩, rfl⟩ hσ15 ?_
          refine rn_steps 1 5 [.ref l0] [] rfl ?_
          exact ih _ _ _ h
/-- LastAsked$Reader.stepWord()V -/
noncomputable def f27 (l0 : Nat) (σ : xM) : Option xM :=
  (pJ σ l0 3 10 0).bind fun σ1 =>
  f27_5 1100 l0 σ1
set_option maxRecDepth 20000 in
set_option maxHeartbeats 1000000 in
theorem e27 (d : Nat) {l0 : Nat} {σ : xM} {y : xM} (h : f27 l0 σ = some y) : Rn (d + 0) 27 0 [.ref l0] [] σ (none, y) := by
  unfold f27 at h
  refine rn_steps 2 2 [.ref l0] [.long 0, .ref l0] rfl ?_
  obtain ⟨σ1, hσ1, h⟩ := Option.bind_eq_some_iff.mp h
  refine rn_pJ (c := 3) (f := 10) rfl rfl ⟨⟨rfl, rfl⟩, rfl⟩ hσ1 ?_
  refine rn_steps 0 5 [.ref l0] [] rfl ?_
  exact e27_5 d 1100 _ _ _ h
noncomputable def f28_111 (s0 : Int32) (s1 : Nat) (σ : xM) : Option xM :=
  (pI σ s1 3 6 s0).bind fun σ1 =>
  some σ1
set_option maxRecDepth 20000 in
set_option maxHeartbeats 1000000 in
theorem e28_111 (d : Nat) (s0 : Int32) (s1 : Nat) (x0 : Value) (σ : xM) (y : xM) (h : f28_111 s0 s1 σ = some y) : Rn (d + 0) 28 111 [x0] [.int s0, .ref s1] σ (none, y) := by
  unfold f28_111 at h
  obtain ⟨σ1, hσ1, h⟩ := Option.bind_eq_some_iff.mp h
  refine rn_pI (c := 3) (f := 6) rfl rfl ⟨⟨rfl, rfl⟩, rfl⟩ hσ1 ?_
  refine rn_steps 0 114 [x0] [] rfl ?_
  cases h
  exact rn_ret rfl rfl rfl
noncomputable def f28_110 (s0 : Nat) (σ : xM) : Option xM :=
  f28_111 4 s0 σ
set_option maxRecDepth 20000 in
set_option maxHeartbeats 1000000 in
theorem e28_110 (d : Nat) (s0 : Nat) (x0 : Value) (σ : xM) (y : xM) (h : f28_110 s0 σ = some y) : Rn (d + 0) 28 110 [x0] [.ref s0] σ (none, y) := by
  unfold f28_110 at h
  refine rn_steps 1 111 [x0] [.int 4, .ref s0] rfl ?_
  exact e28_111 d _ _ _ _ _ h
noncomputable def f28_81 (l0 : Nat) (σ : xM) : Option xM :=
  (gI σ l0 3 8).bind fun v1 =>
  (gI σ l0 3 7).bind fun v2 =>
  if v1 ≤ v2 then
  f28_110 l0 σ
  else
  (gI σ l0 3 8).bind fun v3 =>
  (gI σ l0 3 7).bind fun v4 =>
  if 3 < (v3 - v4) then
  f28_110 l0 σ
  else
  f28_111 2 l0 σ
set_option maxRecDepth 20000 in
set_option maxHeartbeats 1000000 in
theorem e28_81 (d : Nat) (l0 : Nat) (σ : xM) (y : xM) (h : f28_81 l0 σ = some y) : Rn (d + 0) 28 81 [.ref l0] [] σ (none, y) := by
  unfold f28_81 at h
  refine rn_steps 2 83 [.ref l0] [.ref l0, .ref l0] rfl ?_
  obtain ⟨v1, hv1, h⟩ := Option.bind_eq_some_iff.mp h
  refine rn_gI (c := 3) (f := 8) rfl rfl ⟨⟨rfl, rfl⟩, Or.inl rfl⟩ hv1 ?_
  refine rn_steps 1 87 [.ref l0] [.ref l0, .int v1, .ref l0] rfl ?_
  obtain ⟨v2, hv2, h⟩ := Option.bind_eq_some_iff.mp h
  refine rn_gI (c := 3) (f := 7) rfl rfl ⟨⟨rfl, rfl⟩, Or.inl rfl⟩ hv2 ?_
  refine rn_steps 0 90 [.ref l0] [.int v2, .int v1, .ref l0] rfl ?_
  refine rn_br (c := v1 ≤ v2) rfl rfl decide_eq_true_iff (fun hb => ?_) (fun hb => ?_)
  · rw [if_pos hb] at h
    refine rn_steps 0 110 [.ref l0] [.ref l0] rfl ?_
    exact e28_110 d _ _ _ _ h
  · rw [if_neg hb] at h
    refine rn_steps 1 94 [.ref l0] [.ref l0, .ref l0] rfl ?_
    obtain ⟨v3, hv3, h⟩ := Option.bind_eq_some_iff.mp h
    refine rn_gI (c := 3) (f := 8) rfl rfl ⟨⟨rfl, rfl⟩, Or.inl rfl⟩ hv3 ?_
    refine rn_steps 1 98 [.ref l0] [.ref l0, .int v3, .ref l0] rfl ?_
    obtain ⟨v4, hv4, h⟩ := Option.bind_eq_some_iff.mp h
    refine rn_gI (c := 3) (f := 7) rfl rfl ⟨⟨rfl, rfl⟩, Or.inl rfl⟩ hv4 ?_
    refine rn_steps 2 103 [.ref l0] [.int 3, .int (v3 - v4), .ref l0] rfl ?_
    refine rn_br (c := 3 < (v3 - v4)) rfl rfl decide_eq_true_iff (fun hb => ?_) (fun hb => ?_)
    · rw [if_pos hb] at h
      refine rn_steps 0 110 [.ref l0] [.ref l0] rfl ?_
      exact e28_110 d _ _ _ _ h
    · rw [if_neg hb] at h
      refine rn_steps 2 111 [.ref l0] [.int 2, .ref l0] rfl ?_
      exact e28_111 d _ _ _ _ _ h
noncomputable def f28_5 : Nat → Nat → xM → Option xM
  | 0, _, _ => none
  | n + 1, l0, σ =>
    (gI σ l0 3 8).bind fun v1 =>
    (gI σ l0 3 5).bind fun v2 =>
    if v2 ≤ v1 then
    f28_81 l0 σ
    else
    (gR σ l0 3 4).bind fun r3 =>
    (gI σ l0 3 8).bind fun v4 =>
    (aB σ r3 v4).bind fun v5 =>
    if v5 < 48 then
    f28_81 l0 σ
    else
    (gR σ l0 3 4).bind fun r6 =>
    (gI σ l0 3 8).bind fun v7 =>
    (aB σ r6 v7).bind fun v8 =>
    if 57 < v8 then
    f28_81 l0 σ
    else
    (gI σ l0 3 9).bind fun v9 =>
    (gR σ l0 3 4).bind fun r10 =>
    (gI σ l0 3 8).bind fun v11 =>
    (aB σ r10 v11).bind fun v12 =>
    (pI σ l0 3 9 (((v9 * 10) + v12) - 48)).bind fun σ13 =>
    (gI σ13 l0 3 8).bind fun v14 =>
    (pI σ13 l0 3 8 (v14 + 1)).bind fun σ15 =>
    (f28_5 n) l0 σ15
set_option maxRecDepth 20000 in
set_option maxHeartbeats 1000000 in
theorem e28_5 (d : Nat) : ∀ (n : Nat) (l0 : Nat) (σ : xM) (y : xM), f28_5 n l0 σ = some y → Rn (d + 0) 28 5 [.ref l0] [] σ (none, y) := by
  intro n
  induction n with
  | zero => intro l0 σ y h; cases h
  | succ n ih =>
    intro l0 σ y h
    unfold f28_5 at h
    refine rn_steps 1 6 [.ref l0] [.ref l0] rfl ?_
    obtain ⟨v1, hv1, h⟩ := Option.bind_eq_some_iff.mp h
    refine rn_gI (c := 3) (f := 8) rfl rfl ⟨⟨rfl, rfl⟩, Or.inl rfl⟩ hv1 ?_
    refine rn_steps 1 10 [.ref l0] [.ref l0, .int v1] rfl ?_
    obtain ⟨v2, hv2, h⟩ := Option.bind_eq_some_iff.mp h
    refine rn_gI (c := 3) (f := 5) rfl rfl ⟨⟨rfl, rfl⟩, Or.inl rfl⟩ hv2 ?_
    refine rn_steps 0 13 [.ref l0] [.int v2, .int v1] rfl ?_
    refine rn_br (c := v2 ≤ v1) rfl rfl decide_eq_true_iff (fun hb => ?_) (fun hb => ?_)
    · rw [if_pos hb] at h
      refine rn_steps 0 81 [.ref l0] [] rfl ?_
      exact e28_81 d _ _ _ h
    · rw [if_neg hb] at h
      refine rn_steps 1 17 [.ref l0] [.ref l0] rfl ?_
      obtain ⟨r3, hr3, h⟩ := Option.bind_eq_some_iff.mp h
      refine rn_gR (c := 3) (f := 4) rfl rfl ⟨⟨rfl, rfl⟩, rfl⟩ hr3 ?_
      refine rn_steps 1 21 [.ref l0] [.ref l0, .ref r3] rfl ?_
      obtain ⟨v4, hv4, h⟩ := Option.bind_eq_some_iff.mp h
      refine rn_gI (c := 3) (f := 8) rfl rfl ⟨⟨rfl, rfl⟩, Or.inl rfl⟩ hv4 ?_
      refine rn_steps 0 24 [.ref l0] [.int v4, .ref r3] rfl ?_
      obtain ⟨v5, hv5, h⟩ := Option.bind_eq_some_iff.mp h
      refine rn_aB rfl hv5 ?_
      refine rn_steps 1 27 [.ref l0] [.int 48, .int v5] rfl ?_
      refine rn_br (c := v5 < 48) rfl rfl decide_eq_true_iff (fun hb => ?_) (fun hb => ?_)
      · rw [if_pos hb] at h
        refine rn_steps 0 81 [.ref l0] [] rfl ?_
        exact e28_81 d _ _ _ h
      · rw [if_neg hb] at h
        refine rn_steps 1 31 [.ref l0] [.ref l0] rfl ?_
        obtain ⟨r6, hr6, h⟩ := Option.bind_eq_some_iff.mp h
        refine rn_gR (c := 3) (f := 4) rfl rfl ⟨⟨rfl, rfl⟩, rfl⟩ hr6 ?_
        refine rn_steps 1 35 [.ref l0] [.ref l0, .ref r6] rfl ?_
        obtain ⟨v7, hv7, h⟩ := Option.bind_eq_some_iff.mp h
        refine rn_gI (c := 3) (f := 8) rfl rfl ⟨⟨rfl, rfl⟩, Or.inl rfl⟩ hv7 ?_
        refine rn_steps 0 38 [.ref l0] [.int v7, .ref r6] rfl ?_
        obtain ⟨v8, hv8, h⟩ := Option.bind_eq_some_iff.mp h
        refine rn_aB rfl hv8 ?_
        refine rn_steps 1 41 [.ref l0] [.int 57, .int v8] rfl ?_
        refine rn_br (c := 57 < v8) rfl rfl decide_eq_true_iff (fun hb => ?_) (fun hb => ?_)
        · rw [if_pos hb] at h
          refine rn_steps 0 81 [.ref l0] [] rfl ?_
          exact e28_81 d _ _ _ h
        · rw [if_neg hb] at h
          refine rn_steps 2 46 [.ref l0] [.ref l0, .ref l0] rfl ?_
          obtain ⟨v9, hv9, h⟩ := Option.bind_eq_some_iff.mp h
          refine rn_gI (c := 3) (f := 9) rfl rfl ⟨⟨rfl, rfl⟩, Or.inl rfl⟩ hv9 ?_
          refine rn_steps 3 53 [.ref l0] [.ref l0, .int (v9 * 10), .ref l0] rfl ?_
          obtain ⟨r10, hr10, h⟩ := Option.bind_eq_some_iff.mp h
          refine rn_gR (c := 3) (f := 4) rfl rfl ⟨⟨rfl, rfl⟩, rfl⟩ hr10 ?_
          refine rn_steps 1 57 [.ref l0] [.ref l0, .ref r10, .int (v9 * 10), .ref l0] rfl ?_
          obtain ⟨v11, hv11, h⟩ := Option.bind_eq_some_iff.mp h
          refine rn_gI (c := 3) (f := 8) rfl rfl ⟨⟨rfl, rfl⟩, Or.inl rfl⟩ hv11 ?_
          refine rn_steps 0 60 [.ref l0] [.int v11, .ref r10, .int (v9 * 10), .ref l0] rfl ?_
          obtain ⟨v12, hv12, h⟩ := Option.bind_eq_some_iff.mp h
          refine rn_aB rfl hv12 ?_
          refine rn_steps 3 65 [.ref l0] [.int (((v9 * 10) + v12) - 48), .ref l0] rfl ?_
          obtain ⟨σ13, hσ13, h⟩ := Option.bind_eq_some_iff.mp h
          refine rn_pI (c := 3) (f := 9) rfl rfl ⟨⟨rfl, rfl⟩, rfl⟩ hσ13 ?_
          refine rn_steps 2 70 [.ref l0] [.ref l0, .ref l0] rfl ?_
          obtain ⟨v14, hv14, h⟩ := Option.bind_eq_some_iff.mp h
          refine rn_gI (c := 3) (f := 8) rfl rfl ⟨⟨rfl, rfl⟩, Or.inl rfl⟩ hv14 ?_
          refine rn_steps 2 75 [.ref l0] [.int (v14 + 1), .ref l0] rfl ?_
          obtain ⟨σ15, hσ15, h⟩ := Option.bind_eq_some_iff.mp h
          refine rn_pI (c := 3) (f := 8) rfl rfl ⟨⟨rfl, rfl⟩, rfl⟩ hσ15 ?_
          refine rn_steps 1 5 [.ref l0] [] rfl ?_
          exact ih _ _ _ h
/-- LastAsked$Reader.stepWhole()V -/
noncomputable def f28 (l0 : Nat) (σ : xM) : Option xM :=
  (pI σ l0 3 9 0).bind fun σ1 =>
  f28_5 1100 l0 σ1
set_option maxRecDepth 20000 in
set_option maxHeartbeats 1000000 in
theorem e28 (d : Nat) {l0 : Nat} {σ : xM} {y : xM} (h : f28 l0 σ = some y) : Rn (d + 0) 28 0 [.ref l0] [] σ (none, y) := by
  unfold f28 at h
  refine rn_steps 2 2 [.ref l0] [.int 0, .ref l0] rfl ?_
  obtain ⟨σ1, hσ1, h⟩ := Option.bind_eq_some_iff.mp h
  refine rn_pI (c := 3) (f := 9) rfl rfl ⟨⟨rfl, rfl⟩, rfl⟩ hσ1 ?_
  refine rn_steps 0 5 [.ref l0] [] rfl ?_
  exact e28_5 d 1100 _ _ _ h
noncomputable def f26_124 (l0 : Nat) (σ : xM) : Option (Int32 × xM) :=
  (gI σ l0 3 6).bind fun v1 =>
  some (v1, σ)
set_option maxRecDepth 20000 in
set_option maxHeartbeats 1000000 in
theorem e26_124 (d : Nat) (l0 : Nat) (σ : xM) (y : Int32 × xM) (h : f26_124 l0 σ = some y) : Rn (d + 1) 26 124 [.ref l0] [] σ (some (.int y.1), y.2) := by
  unfold f26_124 at h
  refine rn_steps 1 125 [.ref l0] [.ref l0] rfl ?_
  obtain ⟨v1, hv1, h⟩ := Option.bind_eq_some_iff.mp h
  refine rn_gI (c := 3) (f := 6) rfl rfl ⟨⟨rfl, rfl⟩, Or.inl rfl⟩ hv1 ?_
  refine rn_steps 0 128 [.ref l0] [.int v1] rfl ?_
  cases h
  exact rn_ret rfl rfl rfl
noncomputable def f26_46 (l0 : Nat) (σ : xM) : Option (Int32 × xM) :=
  (gI σ l0 3 7).bind fun v1 =>
  (pI σ l0 3 8 v1).bind fun σ2 =>
  (gI σ2 l0 3 7).bind fun v3 =>
  (gI σ2 l0 3 5).bind fun v4 =>
  if v3 < v4 then
  (gR σ2 l0 3 4).bind fun r5 =>
  (gI σ2 l0 3 7).bind fun v6 =>
  (aB σ2 r5 v6).bind fun v7 =>
  if v7 = 59 then
  (gI σ2 l0 3 8).bind fun v14 =>
  (pI σ2 l0 3 8 (v14 + 1)).bind fun σ15 =>
  (pI σ15 l0 3 6 3).bind fun σ16 =>
  f26_124 l0 σ16
  else
  (cO σ2 l0 3).bind fun u13 =>
  (f27 l0 σ2).bind fun y8 =>
  (gI y8 l0 3 8).bind fun v9 =>
  (gI y8 l0 3 7).bind fun v10 =>
  if v9 = v10 then
  (cO y8 l0 3).bind fun u12 =>
  (f28 l0 y8).bind fun y11 =>
  f26_124 l0 y11
  else
  f26_124 l0 y8
  else
  (pI σ2 l0 3 6 0).bind fun σ17 =>
  f26_124 l0 σ17
set_option maxRecDepth 20000 in
set_option maxHeartbeats 1000000 in
theorem e26_46 (d : Nat) (l0 : Nat) (σ : xM) (y : Int32 × xM) (h : f26_46 l0 σ = some y) : Rn (d + 1) 26 46 [.ref l0] [] σ (some (.int y.1), y.2) := by
  unfold f26_46 at h
  refine rn_steps 2 48 [.ref l0] [.ref l0, .ref l0] rfl ?_
  obtain ⟨v1, hv1, h⟩ := Option.bind_eq_some_iff.mp h
  refine rn_gI (c := 3) (f := 7) rfl rfl ⟨⟨rfl, rfl⟩, Or.inl rfl⟩ hv1 ?_
  refine rn_steps 0 51 [.ref l0] [.int v1, .ref l0] rfl ?_
  obtain ⟨σ2, hσ2, h⟩ := Option.bind_eq_some_iff.mp h
  refine rn_pI (c := 3) (f := 8) rfl rfl ⟨⟨rfl, rfl⟩, rfl⟩ hσ2 ?_
  refine rn_steps 1 55 [.ref l0] [.ref l0] rfl ?_
  obtain ⟨v3, hv3, h⟩ := Option.bind_eq_some_iff.mp h
  refine rn_gI (c := 3) (f := 7) rfl rfl ⟨⟨rfl, rfl⟩, Or.inl rfl⟩ hv3 ?_
  refine rn_steps 1 59 [.ref l0] [.ref l0, .int v3] rfl ?_
  obtain ⟨v4, hv4, h⟩ := Option.bind_eq_some_iff.mp h
  refine rn_gI (c := 3) (f := 5) rfl rfl ⟨⟨rfl, rfl⟩, Or.inl rfl⟩ hv4 ?_
  refine rn_steps 0 62 [.ref l0] [.int v4, .int v3] rfl ?_
  refine rn_br (c := v3 < v4) rfl rfl decide_eq_true_iff (fun hb => ?_) (fun hb => ?_)
  · rw [if_pos hb] at h
    refine rn_steps 1 74 [.ref l0] [.ref l0] rfl ?_
    obtain ⟨r5, hr5, h⟩ := Option.bind_eq_some_iff.mp h
    refine rn_gR (c := 3) (f := 4) rfl rfl ⟨⟨rfl, rfl⟩, rfl⟩ hr5 ?_
    refine rn_steps 1 78 [.ref l0] [.ref l0, .ref r5] rfl ?_
    obtain ⟨v6, hv6, h⟩ := Option.bind_eq_some_iff.mp h
    refine rn_gI (c := 3) (f := 7) rfl rfl ⟨⟨rfl, rfl⟩, Or.inl rfl⟩ hv6 ?_
    refine rn_steps 0 81 [.ref l0] [.int v6, .ref r5] rfl ?_
    obtain ⟨v7, hv7, h⟩ := Option.bind_eq_some_iff.mp h
    refine rn_aB rfl hv7 ?_
    refine rn_steps 1 84 [.ref l0] [.int 59, .int v7] rfl ?_
    refine rn_br (c := ¬ v7 = 59) rfl rfl decide_eq_true_iff (fun hb => ?_) (fun hb => ?_)
    · rw [if_neg hb] at h
      refine rn_steps 1 106 [.ref l0] [.ref l0] rfl ?_
      obtain ⟨u13, hu13, h⟩ := Option.bind_eq_some_iff.mp h
      obtain ⟨y8, hy8, h⟩ := Option.bind_eq_some_iff.mp h
      refine rn_callV [] rfl rfl ⟨rfl, rfl⟩ hu13 rfl rfl (e27 d hy8) ?_
      refine rn_steps 1 110 [.ref l0] [.ref l0] rfl ?_
      obtain ⟨v9, hv9, h⟩ := Option.bind_eq_some_iff.mp h
      refine rn_gI (c := 3) (f := 8) rfl rfl ⟨⟨rfl, rfl⟩, Or.inl rfl⟩ hv9 ?_
      refine rn_steps 1 114 [.ref l0] [.ref l0, .int v9] rfl ?_
      obtain ⟨v10, hv10, h⟩ := Option.bind_eq_some_iff.mp h
      refine rn_gI (c := 3) (f := 7) rfl rfl ⟨⟨rfl, rfl⟩, Or.inl rfl⟩ hv10 ?_
      refine rn_steps 0 117 [.ref l0] [.int v10, .int v9] rfl ?_
      refine rn_br (c := ¬ v9 = v10) rfl rfl decide_eq_true_iff (fun hb => ?_) (fun hb => ?_)
      · rw [if_neg hb] at h
        refine rn_steps 0 124 [.ref l0] [] rfl ?_
        exact e26_124 d _ _ _ h
      · rw [if_pos (Decidable.not_not.mp hb)] at h
        refine rn_steps 1 121 [.ref l0] [.ref l0] rfl ?_
        obtain ⟨u12, hu12, h⟩ := Option.bind_eq_some_iff.mp h
        obtain ⟨y11, hy11, h⟩ := Option.bind_eq_some_iff.mp h
        refine rn_callV [] rfl rfl ⟨rfl, rfl⟩ hu12 rfl rfl (e28 d hy11) ?_
        refine rn_steps 0 124 [.ref l0] [] rfl ?_
        exact e26_124 d _ _ _ h
    · rw [if_pos (Decidable.not_not.mp hb)] at h
      refine rn_steps 2 89 [.ref l0] [.ref l0, .ref l0] rfl ?_
      obtain ⟨v14, hv14, h⟩ := Option.bind_eq_some_iff.mp h
      refine rn_gI (c := 3) (f := 8) rfl rfl ⟨⟨rfl, rfl⟩, Or.inl rfl⟩ hv14 ?_
      refine rn_steps 2 94 [.ref l0] [.int (v14 + 1), .ref l0] rfl ?_
      obtain ⟨σ15, hσ15, h⟩ := Option.bind_eq_some_iff.mp h
      refine rn_pI (c := 3) (f := 8) rfl rfl ⟨⟨rfl, rfl⟩, rfl⟩ hσ15 ?_
      refine rn_steps 2 99 [.ref l0] [.int 3, .ref l0] rfl ?_
      obtain ⟨σ16, hσ16, h⟩ := Option.bind_eq_some_iff.mp h
      refine rn_pI (c := 3) (f := 6) rfl rfl ⟨⟨rfl, rfl⟩, rfl⟩ hσ16 ?_
      refine rn_steps 1 124 [.ref l0] [] rfl ?_
      exact e26_124 d _ _ _ h
  · rw [if_neg hb] at h
    refine rn_steps 2 67 [.ref l0] [.int 0, .ref l0] rfl ?_
    obtain ⟨σ17, hσ17, h⟩ := Option.bind_eq_some_iff.mp h
    refine rn_pI (c := 3) (f := 6) rfl rfl ⟨⟨rfl, rfl⟩, rfl⟩ hσ17 ?_
    refine rn_steps 1 124 [.ref l0] [] rfl ?_
    exact e26_124 d _ _ _ h
noncomputable def f26_8 : Nat → Nat → xM → Option (Int32 × xM)
  | 0, _, _ => none
  | n + 1, l0, σ =>
    (gI σ l0 3 7).bind fun v1 =>
    (gI σ l0 3 5).bind fun v2 =>
    if v2 ≤ v1 then
    f26_46 l0 σ
    else
    (gR σ l0 3 4).bind fun r3 =>
    (gI σ l0 3 7).bind fun v4 =>
    (aB σ r3 v4).bind fun v5 =>
    if v5 = 32 then
    (gI σ l0 3 7).bind fun v6 =>
    (pI σ l0 3 7 (v6 + 1)).bind fun σ7 =>
    (f26_8 n) l0 σ7
    else
    f26_46 l0 σ
set_option maxRecDepth 20000 in
set_option maxHeartbeats 1000000 in
theorem e26_8 (d : Nat) : ∀ (n : Nat) (l0 : Nat) (σ : xM) (y : Int32 × xM), f26_8 n l0 σ = some y → Rn (d + 1) 26 8 [.ref l0] [] σ (some (.int y.1), y.2) := by
  intro n
  induction n with
  | zero => intro l0 σ y h; cases h
  | succ n ih =>
    intro l0 σ y h
    unfold f26_8 at h
    refine rn_steps 1 9 [.ref l0] [.ref l0] rfl ?_
    obtain ⟨v1, hv1, h⟩ := Option.bind_eq_some_iff.mp h
    refine rn_gI (c := 3) (f := 7) rfl rfl ⟨⟨rfl, rfl⟩, Or.inl rfl⟩ hv1 ?_
    refine rn_steps 1 13 [.ref l0] [.ref l0, .int v1] rfl ?_
    obtain ⟨v2, hv2, h⟩ := Option.bind_eq_some_iff.mp h
    refine rn_gI (c := 3) (f := 5) rfl rfl ⟨⟨rfl, rfl⟩, Or.inl rfl⟩ hv2 ?_
    refine rn_steps 0 16 [.ref l0] [.int v2, .int v1] rfl ?_
    refine rn_br (c := v2 ≤ v1) rfl rfl decide_eq_true_iff (fun hb => ?_) (fun hb => ?_)
    · rw [if_pos hb] at h
      refine rn_steps 0 46 [.ref l0] [] rfl ?_
      exact e26_46 d _ _ _ h
    · rw [if_neg hb] at h
      refine rn_steps 1 20 [.ref l0] [.ref l0] rfl ?_
      obtain ⟨r3, hr3, h⟩ := Option.bind_eq_some_iff.mp h
      refine rn_gR (c := 3) (f := 4) rfl rfl ⟨⟨rfl, rfl⟩, rfl⟩ hr3 ?_
      refine rn_steps 1 24 [.ref l0] [.ref l0, .ref r3] rfl ?_
      obtain ⟨v4, hv4, h⟩ := Option.bind_eq_some_iff.mp h
      refine rn_gI (c := 3) (f := 7) rfl rfl ⟨⟨rfl, rfl⟩, Or.inl rfl⟩ hv4 ?_
      refine rn_steps 0 27 [.ref l0] [.int v4, .ref r3] rfl ?_
      obtain ⟨v5, hv5, h⟩ := Option.bind_eq_some_iff.mp h
      refine rn_aB rfl hv5 ?_
      refine rn_steps 1 30 [.ref l0] [.int 32, .int v5] rfl ?_
      refine rn_br (c := ¬ v5 = 32) rfl rfl decide_eq_true_iff (fun hb => ?_) (fun hb => ?_)
      · rw [if_neg hb] at h
        refine rn_steps 0 46 [.ref l0] [] rfl ?_
        exact e26_46 d _ _ _ h
      · rw [if_pos (Decidable.not_not.mp hb)] at h
        refine rn_steps 2 35 [.ref l0] [.ref l0, .ref l0] rfl ?_
        obtain ⟨v6, hv6, h⟩ := Option.bind_eq_some_iff.mp h
        refine rn_gI (c := 3) (f := 7) rfl rfl ⟨⟨rfl, rfl⟩, Or.inl rfl⟩ hv6 ?_
        refine rn_steps 2 40 [.ref l0] [.int (v6 + 1), .ref l0] rfl ?_
        obtain ⟨σ7, hσ7, h⟩ := Option.bind_eq_some_iff.mp h
        refine rn_pI (c := 3) (f := 7) rfl rfl ⟨⟨rfl, rfl⟩, rfl⟩ hσ7 ?_
        refine rn_steps 1 8 [.ref l0] [] rfl ?_
        exact ih _ _ _ h
/-- LastAsked$Reader.step()I -/
noncomputable def f26 (l0 : Nat) (σ : xM) : Option (Int32 × xM) :=
  (gI σ l0 3 8).bind fun v1 =>
  (pI σ l0 3 7 v1).bind fun σ2 =>
  f26_8 1100 l0 σ2
set_option maxRecDepth 20000 in
set_option maxHeartbeats 1000000 in
theorem e26 (d : Nat) {l0 : Nat} {σ : xM} {y : Int32 × xM} (h : f26 l0 σ = some y) : Rn (d + 1) 26 0 [.ref l0] [] σ (some (.int y.1), y.2) := by
  unfold f26 at h
  refine rn_steps 2 2 [.ref l0] [.ref l0, .ref l0] rfl ?_
  obtain ⟨v1, hv1, h⟩ := Option.bind_eq_some_iff.mp h
  refine rn_gI (c := 3) (f := 8) rfl rfl ⟨⟨rfl, rfl⟩, Or.inl rfl⟩ hv1 ?_
  refine rn_steps 0 5 [.ref l0] [.int v1, .ref l0] rfl ?_
  obtain ⟨σ2, hσ2, h⟩ := Option.bind_eq_some_iff.mp h
  refine rn_pI (c := 3) (f := 7) rfl rfl ⟨⟨rfl, rfl⟩, rfl⟩ hσ2 ?_
  refine rn_steps 0 8 [.ref l0] [] rfl ?_
  exact e26_8 d 1100 _ _ _ h
noncomputable def f29_22 (s0 : Int32) (σ : xM) : Option (Int32 × xM) :=
  rZ s0 σ
set_option maxRecDepth 20000 in
set_option maxHeartbeats 1000000 in
theorem e29_22 (d : Nat) (s0 : Int32) (x0 x1 x2 : Value) (σ : xM) (y : Int32 × xM) (h : f29_22 s0 σ = some y) : Rn (d + 0) 29 22 [x0, x1, x2] [.int s0] σ (some (.int y.1), y.2) := by
  unfold f29_22 at h
  exact rn_retZ rfl rfl h
noncomputable def f29_21 (σ : xM) : Option (Int32 × xM) :=
  f29_22 0 σ
set_option maxRecDepth 20000 in
set_option maxHeartbeats 1000000 in
theorem e29_21 (d : Nat) (x0 x1 x2 : Value) (σ : xM) (y : Int32 × xM) (h : f29_21 σ = some y) : Rn (d + 0) 29 21 [x0, x1, x2] [] σ (some (.int y.1), y.2) := by
  unfold f29_21 at h
  refine rn_steps 1 22 [x0, x1, x2] [.int 0] rfl ?_
  exact e29_22 d _ _ _ _ _ _ h
/-- LastAsked$Reader.stands(J)Z -/
noncomputable def f29 (l0 : Nat) (l1 : Int64) (σ : xM) : Option (Int32 × xM) :=
  (gI σ l0 3 6).bind fun v1 =>
  if v1 = 1 then
  (gJ σ l0 3 10).bind fun v2 =>
  if (lg_cmp v2 l1) = 0 then
  f29_22 1 σ
  else
  f29_21 σ
  else
  f29_21 σ
set_option maxRecDepth 20000 in
set_option maxHeartbeats 1000000 in
theorem e29 (d : Nat) {l0 : Nat} {l1 : Int64} {σ : xM} {y : Int32 × xM} (h : f29 l0 l1 σ = some y) : Rn (d + 0) 29 0 [.ref l0, .long l1, .retAddr 1] [] σ (some (.int y.1), y.2) := by
  unfold f29 at h
  refine rn_steps 1 1 [.ref l0, .long l1, .retAddr 1] [.ref l0] rfl ?_
  obtain ⟨v1, hv1, h⟩ := Option.bind_eq_some_iff.mp h
  refine rn_gI (c := 3) (f := 6) rfl rfl ⟨⟨rfl, rfl⟩, Or.inl rfl⟩ hv1 ?_
  refine rn_steps 1 5 [.ref l0, .long l1, .retAddr 1] [.int 1, .int v1] rfl ?_
  refine rn_br (c := ¬ v1 = 1) rfl rfl decide_eq_true_iff (fun hb => ?_) (fun hb => ?_)
  · rw [if_neg hb] at h
    refine rn_steps 0 21 [.ref l0, .long l1, .retAddr 1] [] rfl ?_
    exact e29_21 d _ _ _ _ _ h
  · rw [if_pos (Decidable.not_not.mp hb)] at h
    refine rn_steps 1 9 [.ref l0, .long l1, .retAddr 1] [.ref l0] rfl ?_
    obtain ⟨v2, hv2, h⟩ := Option.bind_eq_some_iff.mp h
    refine rn_gJ (c := 3) (f := 10) rfl rfl ⟨⟨rfl, rfl⟩, rfl⟩ hv2 ?_
    refine rn_steps 2 14 [.ref l0, .long l1, .retAddr 1] [.int (lg_cmp v2 l1)] rfl ?_
    refine rn_br (c := ¬ (lg_cmp v2 l1) = 0) rfl rfl decide_eq_true_iff (fun hb => ?_) (fun hb => ?_)
    · rw [if_neg hb] at h
      refine rn_steps 0 21 [.ref l0, .long l1, .retAddr 1] [] rfl ?_
      exact e29_21 d _ _ _ _ _ h
    · rw [if_pos (Decidable.not_not.mp hb)] at h
      refine rn_steps 2 22 [.ref l0, .long l1, .retAddr 1] [.int 1] rfl ?_
      exact e29_22 d _ _ _ _ _ _ h
/-- LastAsked$Reader.spoil(I)Z -/
noncomputable def f25 (l0 : Nat) (l1 : Int32) (σ : xM) : Option (Int32 × xM) :=
  (pI σ l0 3 3 l1).bind fun σ1 =>
  (gI σ1 l0 3 7).bind fun v2 =>
  (pI σ1 l0 3 1 v2).bind fun σ3 =>
  rZ 0 σ3
set_option maxRecDepth 20000 in
set_option maxHeartbeats 1000000 in
theorem e25 (d : Nat) {l0 : Nat} {l1 : Int32} {σ : xM} {y : Int32 × xM} (h : f25 l0 l1 σ = some y) : Rn (d + 0) 25 0 [.ref l0, .int l1] [] σ (some (.int y.1), y.2) := by
  unfold f25 at h
  refine rn_steps 2 2 [.ref l0, .int l1] [.int l1, .ref l0] rfl ?_
  obtain ⟨σ1, hσ1, h⟩ := Option.bind_eq_some_iff.mp h
  refine rn_pI (c := 3) (f := 3) rfl rfl ⟨⟨rfl, rfl⟩, rfl⟩ hσ1 ?_
  refine rn_steps 2 7 [.ref l0, .int l1] [.ref l0, .ref l0] rfl ?_
  obtain ⟨v2, hv2, h⟩ := Option.bind_eq_some_iff.mp h
  refine rn_gI (c := 3) (f := 7) rfl rfl ⟨⟨rfl, rfl⟩, Or.inl rfl⟩ hv2 ?_
  refine rn_steps 0 10 [.ref l0, .int l1] [.int v2, .ref l0] rfl ?_
  obtain ⟨σ3, hσ3, h⟩ := Option.bind_eq_some_iff.mp h
  refine rn_pI (c := 3) (f := 1) rfl rfl ⟨⟨rfl, rfl⟩, rfl⟩ hσ3 ?_
  refine rn_steps 1 14 [.ref l0, .int l1] [.int 0] rfl ?_
  exact rn_retZ rfl rfl h
noncomputable def f30_26 (s0 : Int32) (σ : xM) : Option (Int32 × xM) :=
  rZ s0 σ
set_option maxRecDepth 20000 in
set_option maxHeartbeats 1000000 in
theorem e30_26 (d : Nat) (s0 : Int32) (x0 x1 x2 : Value) (σ : xM) (y : Int32 × xM) (h : f30_26 s0 σ = some y) : Rn (d + 2) 30 26 [x0, x1, x2] [.int s0] σ (some (.int y.1), y.2) := by
  unfold f30_26 at h
  exact rn_retZ rfl rfl h
noncomputable def f30_21 (σ : xM) : Option (Int32 × xM) :=
  f30_26 1 σ
set_option maxRecDepth 20000 in
set_option maxHeartbeats 1000000 in
theorem e30_21 (d : Nat) (x0 x1 x2 : Value) (σ : xM) (y : Int32 × xM) (h : f30_21 σ = some y) : Rn (d + 2) 30 21 [x0, x1, x2] [] σ (some (.int y.1), y.2) := by
  unfold f30_21 at h
  refine rn_steps 2 26 [x0, x1, x2] [.int 1] rfl ?_
  exact e30_26 d _ _ _ _ _ _ h
/-- LastAsked$Reader.takeWord(J)Z -/
noncomputable def f30 (l0 : Nat) (l1 : Int64) (σ : xM) : Option (Int32 × xM) :=
  (cO σ l0 3).bind fun u6 =>
  (f26 l0 σ).bind fun y1 =>
  (cO y1.2 l0 3).bind fun u5 =>
  (f29 l0 l1 y1.2).bind fun y2 =>
  if y2.1 = 0 then
  (cO y2.2 l0 3).bind fun u4 =>
  (f25 l0 1 y2.2).bind fun y3 =>
  if y3.1 = 0 then
  f30_26 0 y3.2
  else
  f30_21 y3.2
  else
  f30_21 y2.2
set_option maxRecDepth 20000 in
set_option maxHeartbeats 1000000 in
theorem e30 (d : Nat) {l0 : Nat} {l1 : Int64} {σ : xM} {y : Int32 × xM} (h : f30 l0 l1 σ = some y) : Rn (d + 2) 30 0 [.ref l0, .long l1, .retAddr 1] [] σ (some (.int y.1), y.2) := by
  unfold f30 at h
  refine rn_steps 1 1 [.ref l0, .long l1, .retAddr 1] [.ref l0] rfl ?_
  obtain ⟨u6, hu6, h⟩ := Option.bind_eq_some_iff.mp h
  obtain ⟨y1, hy1, h⟩ := Option.bind_eq_some_iff.mp h
  refine rn_callV [] rfl rfl ⟨rfl, rfl⟩ hu6 rfl rfl (e26 d hy1) ?_
  refine rn_steps 3 7 [.ref l0, .long l1, .retAddr 1] [.long l1, .ref l0] rfl ?_
  obtain ⟨u5, hu5, h⟩ := Option.bind_eq_some_iff.mp h
  obtain ⟨y2, hy2, h⟩ := Option.bind_eq_some_iff.mp h
  refine rn_callV [.long l1] rfl rfl ⟨rfl, rfl⟩ hu5 rfl rfl (e29 (d + 1) hy2) ?_
  refine rn_steps 0 10 [.ref l0, .long l1, .retAddr 1] [.int y2.1] rfl ?_
  refine rn_br (c := ¬ y2.1 = 0) rfl rfl decide_eq_true_iff (fun hb => ?_) (fun hb => ?_)
  · rw [if_neg hb] at h
    refine rn_steps 0 21 [.ref l0, .long l1, .retAddr 1] [] rfl ?_
    exact e30_21 d _ _ _ _ _ h
  · rw [if_pos (Decidable.not_not.mp hb)] at h
    refine rn_steps 2 15 [.ref l0, .long l1, .retAddr 1] [.int 1, .ref l0] rfl ?_
    obtain ⟨u4, hu4, h⟩ := Option.bind_eq_some_iff.mp h
    obtain ⟨y3, hy3, h⟩ := Option.bind_eq_some_iff.mp h
    refine rn_callV [.int 1] rfl rfl ⟨rfl, rfl⟩ hu4 rfl rfl (e25 (d + 1) hy3) ?_
    refine rn_steps 0 18 [.ref l0, .long l1, .retAddr 1] [.int y3.1] rfl ?_
    refine rn_br (c := y3.1 = 0) rfl rfl decide_eq_true_iff (fun hb => ?_) (fun hb => ?_)
    · rw [if_pos hb] at h
      refine rn_steps 1 26 [.ref l0, .long l1, .retAddr 1] [.int 0] rfl ?_
      exact e30_26 d _ _ _ _ _ _ h
    · rw [if_neg hb] at h
      refine rn_steps 0 21 [.ref l0, .long l1, .retAddr 1] [] rfl ?_
      exact e30_21 d _ _ _ _ _ h
noncomputable def f31_35 (s0 : Int32) (σ : xM) : Option (Int32 × xM) :=
  rZ s0 σ
set_option maxRecDepth 20000 in
set_option maxHeartbeats 1000000 in
theorem e31_35 (d : Nat) (s0 : Int32) (x0 x1 : Value) (σ : xM) (y : Int32 × xM) (h : f31_35 s0 σ = some y) : Rn (d + 2) 31 35 [x0, x1] [.int s0] σ (some (.int y.1), y.2) := by
  unfold f31_35 at h
  exact rn_retZ rfl rfl h
noncomputable def f31_30 (σ : xM) : Option (Int32 × xM) :=
  f31_35 1 σ
set_option maxRecDepth 20000 in
set_option maxHeartbeats 1000000 in
theorem e31_30 (d : Nat) (x0 x1 : Value) (σ : xM) (y : Int32 × xM) (h : f31_30 σ = some y) : Rn (d + 2) 31 30 [x0, x1] [] σ (some (.int y.1), y.2) := by
  unfold f31_30 at h
  refine rn_steps 2 35 [x0, x1] [.int 1] rfl ?_
  exact e31_35 d _ _ _ _ _ h
/-- LastAsked$Reader.takeWhole(I)Z -/
noncomputable def f31 (l0 : Nat) (l1 : Int32) (σ : xM) : Option (Int32 × xM) :=
  (cO σ l0 3).bind fun u7 =>
  (f26 l0 σ).bind fun y1 =>
  if y1.1 = 2 then
  (gI y1.2 l0 3 9).bind fun v2 =>
  if v2 ≤ l1 then
  f31_30 y1.2
  else
  (cO y1.2 l0 3).bind fun u4 =>
  (f25 l0 4 y1.2).bind fun y3 =>
  if y3.1 = 0 then
  f31_35 0 y3.2
  else
  f31_30 y3.2
  else
  (cO y1.2 l0 3).bind fun u6 =>
  (f25 l0 1 y1.2).bind fun y5 =>
  rZ y5.1 y5.2
set_option maxRecDepth 20000 in
set_option maxHeartbeats 1000000 in
theorem e31 (d : Nat) {l0 : Nat} {l1 : Int32} {σ : xM} {y : Int32 × xM} (h : f31 l0 l1 σ = some y) : Rn (d + 2) 31 0 [.ref l0, .int l1] [] σ (some (.int y.1), y.2) := by
  unfold f31 at h
  refine rn_steps 1 1 [.ref l0, .int l1] [.ref l0] rfl ?_
  obtain ⟨u7, hu7, h⟩ := Option.bind_eq_some_iff.mp h
  obtain ⟨y1, hy1, h⟩ := Option.bind_eq_some_iff.mp h
  refine rn_callV [] rfl rfl ⟨rfl, rfl⟩ hu7 rfl rfl (e26 d hy1) ?_
  refine rn_steps 1 5 [.ref l0, .int l1] [.int 2, .int y1.1] rfl ?_
  refine rn_br (c := y1.1 = 2) rfl rfl decide_eq_true_iff (fun hb => ?_) (fun hb => ?_)
  · rw [if_pos hb] at h
    refine rn_steps 1 15 [.ref l0, .int l1] [.ref l0] rfl ?_
    obtain ⟨v2, hv2, h⟩ := Option.bind_eq_some_iff.mp h
    refine rn_gI (c := 3) (f := 9) rfl rfl ⟨⟨rfl, rfl⟩, Or.inl rfl⟩ hv2 ?_
    refine rn_steps 1 19 [.ref l0, .int l1] [.int l1, .int v2] rfl ?_
    refine rn_br (c := v2 ≤ l1) rfl rfl decide_eq_true_iff (fun hb => ?_) (fun hb => ?_)
    · rw [if_pos hb] at h
      refine rn_steps 0 30 [.ref l0, .int l1] [] rfl ?_
      exact e31_30 d _ _ _ _ h
    · rw [if_neg hb] at h
      refine rn_steps 2 24 [.ref l0, .int l1] [.int 4, .ref l0] rfl ?_
      obtain ⟨u4, hu4, h⟩ := Option.bind_eq_some_iff.mp h
      obtain ⟨y3, hy3, h⟩ := Option.bind_eq_some_iff.mp h
      refine rn_callV [.int 4] rfl rfl ⟨rfl, rfl⟩ hu4 rfl rfl (e25 (d + 1) hy3) ?_
      refine rn_steps 0 27 [.ref l0, .int l1] [.int y3.1] rfl ?_
      refine rn_br (c := y3.1 = 0) rfl rfl decide_eq_true_iff (fun hb => ?_) (fun hb => ?_)
      · rw [if_pos hb] at h
        refine rn_steps 1 35 [.ref l0, .int l1] [.int 0] rfl ?_
        exact e31_35 d _ _ _ _ _ h
      · rw [if_neg hb] at h
        refine rn_steps 0 30 [.ref l0, .int l1] [] rfl ?_
        exact e31_30 d _ _ _ _ h
  · rw [if_neg hb] at h
    refine rn_steps 2 10 [.ref l0, .int l1] [.int 1, .ref l0] rfl ?_
    obtain ⟨u6, hu6, h⟩ := Option.bind_eq_some_iff.mp h
    obtain ⟨y5, hy5, h⟩ := Option.bind_eq_some_iff.mp h
    refine rn_callV [.int 1] rfl rfl ⟨rfl, rfl⟩ hu6 rfl rfl (e25 (d + 1) hy5) ?_
    refine rn_steps 0 13 [.ref l0, .int l1] [.int y5.1] rfl ?_
    exact rn_retZ rfl rfl h
noncomputable def f37_56 (σ : xM) : Option (Int32 × xM) :=
  rZ 0 σ
set_option maxRecDepth 20000 in
set_option maxHeartbeats 1000000 in
theorem e37_56 (d : Nat) (x0 : Value) (σ : xM) (y : Int32 × xM) (h : f37_56 σ = some y) : Rn (d + 3) 37 56 [x0] [] σ (some (.int y.1), y.2) := by
  unfold f37_56 at h
  refine rn_steps 1 57 [x0] [.int 0] rfl ?_
  exact rn_retZ rfl rfl h
noncomputable def f37_24 (σ : xM) : Option (Int32 × xM) :=
  rZ 0 σ
set_option maxRecDepth 20000 in
set_option maxHeartbeats 1000000 in
theorem e37_24 (d : Nat) (x0 : Value) (σ : xM) (y : Int32 × xM) (h : f37_24 σ = some y) : Rn (d + 3) 37 24 [x0] [] σ (some (.int y.1), y.2) := by
  unfold f37_24 at h
  refine rn_steps 1 25 [x0] [.int 0] rfl ?_
  exact rn_retZ rfl rfl h
/-- LastAsked$Reader.readHead()Z -/
noncomputable def f37 (l0 : Nat) (σ : xM) : Option (Int32 × xM) :=
  (pZ σ l0 3 11 1).bind fun σ1 =>
  (cO σ1 l0 3).bind fun u15 =>
  (f30 l0 1752135026 σ1).bind fun y2 =>
  if y2.1 = 0 then
  f37_24 y2.2
  else
  (cO y2.2 l0 3).bind fun u14 =>
  (f31 l0 99 y2.2).bind fun y3 =>
  if y3.1 = 0 then
  f37_24 y3.2
  else
  (gR y3.2 l0 3 2).bind fun r4 =>
  (gI y3.2 l0 3 9).bind fun v5 =>
  (pI y3.2 r4 0 0 v5).bind fun σ6 =>
  (cO σ6 l0 3).bind fun u13 =>
  (f30 l0 444150998387 σ6).bind fun y7 =>
  if y7.1 = 0 then
  f37_56 y7.2
  else
  (cO y7.2 l0 3).bind fun u12 =>
  (f31 l0 9 y7.2).bind fun y8 =>
  if y8.1 = 0 then
  f37_56 y8.2
  else
  (gR y8.2 l0 3 2).bind fun r9 =>
  (gI y8.2 l0 3 9).bind fun v10 =>
  (pI y8.2 r9 0 1 v10).bind fun σ11 =>
  rZ 1 σ11
set_option maxRecDepth 20000 in
set_option maxHeartbeats 1000000 in
theorem e37 (d : Nat) {l0 : Nat} {σ : xM} {y : Int32 × xM} (h : f37 l0 σ = some y) : Rn (d + 3) 37 0 [.ref l0] [] σ (some (.int y.1), y.2) := by
  unfold f37 at h
  refine rn_steps 2 2 [.ref l0] [.int 1, .ref l0] rfl ?_
  obtain ⟨σ1, hσ1, h⟩ := Option.bind_eq_some_iff.mp h
  refine rn_pZ (c := 3) (f := 11) rfl rfl ⟨⟨rfl, rfl⟩, rfl⟩ hσ1 ?_
  refine rn_steps 2 9 [.ref l0] [.long 1752135026, .ref l0] rfl ?_
  obtain ⟨u15, hu15, h⟩ := Option.bind_eq_some_iff.mp h
  obtain ⟨y2, hy2, h⟩ := Option.bind_eq_some_iff.mp h
  refine rn_callV [.long 1752135026] rfl rfl ⟨rfl, rfl⟩ hu15 rfl rfl (e30 d hy2) ?_
  refine rn_steps 0 12 [.ref l0] [.int y2.1] rfl ?_
  refine rn_br (c := y2.1 = 0) rfl rfl decide_eq_true_iff (fun hb => ?_) (fun hb => ?_)
  · rw [if_pos hb] at h
    refine rn_steps 0 24 [.ref l0] [] rfl ?_
    exact e37_24 d _ _ _ h
  · rw [if_neg hb] at h
    refine rn_steps 2 18 [.ref l0] [.int 99, .ref l0] rfl ?_
    obtain ⟨u14, hu14, h⟩ := Option.bind_eq_some_iff.mp h
    obtain ⟨y3, hy3, h⟩ := Option.bind_eq_some_iff.mp h
    refine rn_callV [.int 99] rfl rfl ⟨rfl, rfl⟩ hu14 rfl rfl (e31 d hy3) ?_
    refine rn_steps 0 21 [.ref l0] [.int y3.1] rfl ?_
    refine rn_br (c := ¬ y3.1 = 0) rfl rfl decide_eq_true_iff (fun hb => ?_) (fun hb => ?_)
    · rw [if_neg hb] at h
      refine rn_steps 1 27 [.ref l0] [.ref l0] rfl ?_
      obtain ⟨r4, hr4, h⟩ := Option.bind_eq_some_iff.mp h
      refine rn_gR (c := 3) (f := 2) rfl rfl ⟨⟨rfl, rfl⟩, rfl⟩ hr4 ?_
      refine rn_steps 1 31 [.ref l0] [.ref l0, .ref r4] rfl ?_
      obtain ⟨v5, hv5, h⟩ := Option.bind_eq_some_iff.mp h
      refine rn_gI (c := 3) (f := 9) rfl rfl ⟨⟨rfl, rfl⟩, Or.inl rfl⟩ hv5 ?_
      refine rn_steps 0 34 [.ref l0] [.int v5, .ref r4] rfl ?_
      obtain ⟨σ6, hσ6, h⟩ := Option.bind_eq_some_iff.mp h
      refine rn_pI (c := 0) (f := 0) rfl rfl ⟨⟨rfl, rfl⟩, rfl⟩ hσ6 ?_
      refine rn_steps 2 41 [.ref l0] [.long 444150998387, .ref l0] rfl ?_
      obtain ⟨u13, hu13, h⟩ := Option.bind_eq_some_iff.mp h
      obtain ⟨y7, hy7, h⟩ := Option.bind_eq_some_iff.mp h
      refine rn_callV [.long 444150998387] rfl rfl ⟨rfl, rfl⟩ hu13 rfl rfl (e30 d hy7) ?_
      refine rn_steps 0 44 [.ref l0] [.int y7.1] rfl ?_
      refine rn_br (c := y7.1 = 0) rfl rfl decide_eq_true_iff (fun hb => ?_) (fun hb => ?_)
      · rw [if_pos hb] at h
        refine rn_steps 0 56 [.ref l0] [] rfl ?_
        exact e37_56 d _ _ _ h
      · rw [if_neg hb] at h
        refine rn_steps 2 50 [.ref l0] [.int 9, .ref l0] rfl ?_
        obtain ⟨u12, hu12, h⟩ := Option.bind_eq_some_iff.mp h
        obtain ⟨y8, hy8, h⟩ := Option.bind_eq_some_iff.mp h
        refine rn_callV [.int 9] rfl rfl ⟨rfl, rfl⟩ hu12 rfl rfl (e31 d hy8) ?_
        refine rn_steps 0 53 [.ref l0] [.int y8.1] rfl ?_
        refine rn_br (c := ¬ y8.1 = 0) rfl rfl decide_eq_true_iff (fun hb => ?_) (fun hb => ?_)
        · rw [if_neg hb] at h
          refine rn_steps 1 59 [.ref l0] [.ref l0] rfl ?_
          obtain ⟨r9, hr9, h⟩ := Option.bind_eq_some_iff.mp h
          refine rn_gR (c := 3) (f := 2) rfl rfl ⟨⟨rfl, rfl⟩, rfl⟩ hr9 ?_
          refine rn_steps 1 63 [.ref l0] [.ref l0, .ref r9] rfl ?_
          obtain ⟨v10, hv10, h⟩ := Option.bind_eq_some_iff.mp h
          refine rn_gI (c := 3) (f := 9) rfl rfl ⟨⟨rfl, rfl⟩, Or.inl rfl⟩ hv10 ?_
          refine rn_steps 0 66 [.ref l0] [.int v10, .ref r9] rfl ?_
          obtain ⟨σ11, hσ11, h⟩ := Option.bind_eq_some_iff.mp h
          refine rn_pI (c := 0) (f := 1) rfl rfl ⟨⟨rfl, rfl⟩, rfl⟩ hσ11 ?_
          refine rn_steps 1 70 [.ref l0] [.int 1] rfl ?_
          exact rn_retZ rfl rfl h
        · rw [if_pos (Decidable.not_not.mp hb)] at h
          refine rn_steps 0 56 [.ref l0] [] rfl ?_
          exact e37_56 d _ _ _ h
    · rw [if_pos (Decidable.not_not.mp hb)] at h
      refine rn_steps 0 24 [.ref l0] [] rfl ?_
      exact e37_24 d _ _ _ h
noncomputable def f32_100 (s0 : Int32) (σ : xM) : Option (Int32 × xM) :=
  rZ s0 σ
set_option maxRecDepth 20000 in
set_option maxHeartbeats 1000000 in
theorem e32_100 (d : Nat) (s0 : Int32) (x0 x1 : Value) (σ : xM) (y : Int32 × xM) (h : f32_100 s0 σ = some y) : Rn (d + 0) 32 100 [x0, x1] [.int s0] σ (some (.int y.1), y.2) := by
  unfold f32_100 at h
  exact rn_retZ rfl rfl h
noncomputable def f32_99 (σ : xM) : Option (Int32 × xM) :=
  f32_100 0 σ
set_option maxRecDepth 20000 in
set_option maxHeartbeats 1000000 in
theorem e32_99 (d : Nat) (x0 x1 : Value) (σ : xM) (y : Int32 × xM) (h : f32_99 σ = some y) : Rn (d + 0) 32 99 [x0, x1] [] σ (some (.int y.1), y.2) := by
  unfold f32_99 at h
  refine rn_steps 1 100 [x0, x1] [.int 0] rfl ?_
  exact e32_100 d _ _ _ _ _ h
noncomputable def f32_82 (l0 : Nat) (s0 : Int32) (σ : xM) : Option (Int32 × xM) :=
  (gI σ l0 3 6).bind fun v1 =>
  if v1 = 1 then
  if s0 = 0 then
  f32_100 1 σ
  else
  f32_99 σ
  else
  f32_99 σ
set_option maxRecDepth 20000 in
set_option maxHeartbeats 1000000 in
theorem e32_82 (d : Nat) (l0 : Nat) (s0 : Int32) (x1 : Value) (σ : xM) (y : Int32 × xM) (h : f32_82 l0 s0 σ = some y) : Rn (d + 0) 32 82 [.ref l0, x1] [.int s0] σ (some (.int y.1), y.2) := by
  unfold f32_82 at h
  refine rn_steps 2 84 [.ref l0, .int s0] [.ref l0] rfl ?_
  obtain ⟨v1, hv1, h⟩ := Option.bind_eq_some_iff.mp h
  refine rn_gI (c := 3) (f := 6) rfl rfl ⟨⟨rfl, rfl⟩, Or.inl rfl⟩ hv1 ?_
  refine rn_steps 1 88 [.ref l0, .int s0] [.int 1, .int v1] rfl ?_
  refine rn_br (c := ¬ v1 = 1) rfl rfl decide_eq_true_iff (fun hb => ?_) (fun hb => ?_)
  · rw [if_neg hb] at h
    refine rn_steps 0 99 [.ref l0, .int s0] [] rfl ?_
    exact e32_99 d _ _ _ _ h
  · rw [if_pos (Decidable.not_not.mp hb)] at h
    refine rn_steps 1 92 [.ref l0, .int s0] [.int s0] rfl ?_
    refine rn_br (c := ¬ s0 = 0) rfl rfl decide_eq_true_iff (fun hb => ?_) (fun hb => ?_)
    · rw [if_neg hb] at h
      refine rn_steps 0 99 [.ref l0, .int s0] [] rfl ?_
      exact e32_99 d _ _ _ _ h
    · rw [if_pos (Decidable.not_not.mp hb)] at h
      refine rn_steps 2 100 [.ref l0, .int s0] [.int 1] rfl ?_
      exact e32_100 d _ _ _ _ _ h
noncomputable def f32_77 (l0 : Nat) (σ : xM) : Option (Int32 × xM) :=
  f32_82 l0 1 σ
set_option maxRecDepth 20000 in
set_option maxHeartbeats 1000000 in
theorem e32_77 (d : Nat) (l0 : Nat) (x1 : Value) (σ : xM) (y : Int32 × xM) (h : f32_77 l0 σ = some y) : Rn (d + 0) 32 77 [.ref l0, x1] [] σ (some (.int y.1), y.2) := by
  unfold f32_77 at h
  refine rn_steps 2 82 [.ref l0, x1] [.int 1] rfl ?_
  exact e32_82 d _ _ _ _ _ h
/-- LastAsked$Reader.isName()Z -/
noncomputable def f32 (l0 : Nat) (σ : xM) : Option (Int32 × xM) :=
  (gJ σ l0 3 10).bind fun v1 =>
  if (lg_cmp v1 1667855481) = 0 then
  f32_77 l0 σ
  else
  (gJ σ l0 3 10).bind fun v2 =>
  if (lg_cmp v2 123581014175598) = 0 then
  f32_77 l0 σ
  else
  (gJ σ l0 3 10).bind fun v3 =>
  if (lg_cmp v3 1852137842) = 0 then
  f32_77 l0 σ
  else
  (gJ σ l0 3 10).bind fun v4 =>
  if (lg_cmp v4 418548245860) = 0 then
  f32_77 l0 σ
  else
  (gJ σ l0 3 10).bind fun v5 =>
  if (lg_cmp v5 448377483876) = 0 then
  f32_77 l0 σ
  else
  (gJ σ l0 3 10).bind fun v6 =>
  if (lg_cmp v6 2003136116) = 0 then
  f32_77 l0 σ
  else
  (gJ σ l0 3 10).bind fun v7 =>
  if (lg_cmp v7 6513012) = 0 then
  f32_77 l0 σ
  else
  f32_82 l0 0 σ
set_option maxRecDepth 20000 in
set_option maxHeartbeats 1000000 in
theorem e32 (d : Nat) {l0 : Nat} {σ : xM} {y : Int32 × xM} (h : f32 l0 σ = some y) : Rn (d + 0) 32 0 [.ref l0, .retAddr 0] [] σ (some (.int y.1), y.2) := by
  unfold f32 at h
  refine rn_steps 1 1 [.ref l0, .retAddr 0] [.ref l0] rfl ?_
  obtain ⟨v1, hv1, h⟩ := Option.bind_eq_some_iff.mp h
  refine rn_gJ (c := 3) (f := 10) rfl rfl ⟨⟨rfl, rfl⟩, rfl⟩ hv1 ?_
  refine rn_steps 2 8 [.ref l0, .retAddr 0] [.int (lg_cmp v1 1667855481)] rfl ?_
  refine rn_br (c := (lg_cmp v1 1667855481) = 0) rfl rfl decide_eq_true_iff (fun hb => ?_) (fun hb => ?_)
  · rw [if_pos hb] at h
    refine rn_steps 0 77 [.ref l0, .retAddr 0] [] rfl ?_
    exact e32_77 d _ _ _ _ h
  · rw [if_neg hb] at h
    refine rn_steps 1 12 [.ref l0, .retAddr 0] [.ref l0] rfl ?_
    obtain ⟨v2, hv2, h⟩ := Option.bind_eq_some_iff.mp h
    refine rn_gJ (c := 3) (f := 10) rfl rfl ⟨⟨rfl, rfl⟩, rfl⟩ hv2 ?_
    refine rn_steps 2 19 [.ref l0, .retAddr 0] [.int (lg_cmp v2 123581014175598)] rfl ?_
    refine rn_br (c := (lg_cmp v2 123581014175598) = 0) rfl rfl decide_eq_true_iff (fun hb => ?_) (fun hb => ?_)
    · rw [if_pos hb] at h
      refine rn_steps 0 77 [.ref l0, .retAddr 0] [] rfl ?_
      exact e32_77 d _ _ _ _ h
    · rw [if_neg hb] at h
      refine rn_steps 1 23 [.ref l0, .retAddr 0] [.ref l0] rfl ?_
      obtain ⟨v3, hv3, h⟩ := Option.bind_eq_some_iff.mp h
      refine rn_gJ (c := 3) (f := 10) rfl rfl ⟨⟨rfl, rfl⟩, rfl⟩ hv3 ?_
      refine rn_steps 2 30 [.ref l0, .retAddr 0] [.int (lg_cmp v3 1852137842)] rfl ?_
      refine rn_br (c := (lg_cmp v3 1852137842) = 0) rfl rfl decide_eq_true_iff (fun hb => ?_) (fun hb => ?_)
      · rw [if_pos hb] at h
        refine rn_steps 0 77 [.ref l0, .retAddr 0] [] rfl ?_
        exact e32_77 d _ _ _ _ h
      · rw [if_neg hb] at h
        refine rn_steps 1 34 [.ref l0, .retAddr 0] [.ref l0] rfl ?_
        obtain ⟨v4, hv4, h⟩ := Option.bind_eq_some_iff.mp h
        refine rn_gJ (c := 3) (f := 10) rfl rfl ⟨⟨rfl, rfl⟩, rfl⟩ hv4 ?_
        refine rn_steps 2 41 [.ref l0, .retAddr 0] [.int (lg_cmp v4 418548245860)] rfl ?_
        refine rn_br (c := (lg_cmp v4 418548245860) = 0) rfl rfl decide_eq_true_iff (fun hb => ?_) (fun hb => ?_)
        · rw [if_pos hb] at h
          refine rn_steps 0 77 [.ref l0, .retAddr 0] [] rfl ?_
          exact e32_77 d _ _ _ _ h
        · rw [if_neg hb] at h
          refine rn_steps 1 45 [.ref l0, .retAddr 0] [.ref l0] rfl ?_
          obtain ⟨v5, hv5, h⟩ := Option.bind_eq_some_iff.mp h
          refine rn_gJ (c := 3) (f := 10) rfl rfl ⟨⟨rfl, rfl⟩, rfl⟩ hv5 ?_
          refine rn_steps 2 52 [.ref l0, .retAddr 0] [.int (lg_cmp v5 448377483876)] rfl ?_
          refine rn_br (c := (lg_cmp v5 448377483876) = 0) rfl rfl decide_eq_true_iff (fun hb => ?_) (fun hb => ?_)
          · rw [if_pos hb] at h
            refine rn_steps 0 77 [.ref l0, .retAddr 0] [] rfl ?_
            exact e32_77 d _ _ _ _ h
          · rw [if_neg hb] at h
            refine rn_steps 1 56 [.ref l0, .retAddr 0] [.ref l0] rfl ?_
            obtain ⟨v6, hv6, h⟩ := Option.bind_eq_some_iff.mp h
            refine rn_gJ (c := 3) (f := 10) rfl rfl ⟨⟨rfl, rfl⟩, rfl⟩ hv6 ?_
            refine rn_steps 2 63 [.ref l0, .retAddr 0] [.int (lg_cmp v6 2003136116)] rfl ?_
            refine rn_br (c := (lg_cmp v6 2003136116) = 0) rfl rfl decide_eq_true_iff (fun hb => ?_) (fun hb => ?_)
            · rw [if_pos hb] at h
              refine rn_steps 0 77 [.ref l0, .retAddr 0] [] rfl ?_
              exact e32_77 d _ _ _ _ h
            · rw [if_neg hb] at h
              refine rn_steps 1 67 [.ref l0, .retAddr 0] [.ref l0] rfl ?_
              obtain ⟨v7, hv7, h⟩ := Option.bind_eq_some_iff.mp h
              refine rn_gJ (c := 3) (f := 10) rfl rfl ⟨⟨rfl, rfl⟩, rfl⟩ hv7 ?_
              refine rn_steps 2 74 [.ref l0, .retAddr 0] [.int (lg_cmp v7 6513012)] rfl ?_
              refine rn_br (c := ¬ (lg_cmp v7 6513012) = 0) rfl rfl decide_eq_true_iff (fun hb => ?_) (fun hb => ?_)
              · rw [if_neg hb] at h
                refine rn_steps 1 82 [.ref l0, .retAddr 0] [.int 0] rfl ?_
                exact e32_82 d _ _ _ _ _ h
              · rw [if_pos (Decidable.not_not.mp hb)] at h
                refine rn_steps 0 77 [.ref l0, .retAddr 0] [] rfl ?_
                exact e32_77 d _ _ _ _ h
noncomputable def f33_41 (σ : xM) : Option (Int32 × xM) :=
  some ((-1), σ)
set_option maxRecDepth 20000 in
set_option maxHeartbeats 1000000 in
theorem e33_41 (d : Nat) (x0 x1 : Value) (σ : xM) (y : Int32 × xM) (h : f33_41 σ = some y) : Rn (d + 0) 33 41 [x0, x1] [] σ (some (.int y.1), y.2) := by
  unfold f33_41 at h
  refine rn_steps 1 42 [x0, x1] [.int (-1)] rfl ?_
  cases h
  exact rn_ret rfl rfl rfl
noncomputable def f33_2 : Nat → Nat → Int32 → xM → Option (Int32 × xM)
  | 0, _, _, _ => none
  | n + 1, l0, l1, σ =>
    (gR σ l0 3 2).bind fun r1 =>
    (gI σ r1 0 2).bind fun v2 =>
    if v2 ≤ l1 then
    f33_41 σ
    else
    if 6 ≤ l1 then
    f33_41 σ
    else
    (gR σ l0 3 12).bind fun r3 =>
    (aJ σ r3 l1).bind fun v4 =>
    (gJ σ l0 3 10).bind fun v5 =>
    if (lg_cmp v4 v5) = 0 then
    some (l1, σ)
    else
    (f33_2 n) l0 (l1 + 1) σ
set_option maxRecDepth 20000 in
set_option maxHeartbeats 1000000 in
theorem e33_2 (d : Nat) : ∀ (n : Nat) (l0 : Nat) (l1 : Int32) (σ : xM) (y : Int32 × xM), f33_2 n l0 l1 σ = some y → Rn (d + 0) 33 2 [.ref l0, .int l1] [] σ (some (.int y.1), y.2) := by
  intro n
  induction n with
  | zero => intro l0 l1 σ y h; cases h
  | succ n ih =>
    intro l0 l1 σ y h
    unfold f33_2 at h
    refine rn_steps 2 4 [.ref l0, .int l1] [.ref l0, .int l1] rfl ?_
    obtain ⟨r1, hr1, h⟩ := Option.bind_eq_some_iff.mp h
    refine rn_gR (c := 3) (f := 2) rfl rfl ⟨⟨rfl, rfl⟩, rfl⟩ hr1 ?_
    refine rn_steps 0 7 [.ref l0, .int l1] [.ref r1, .int l1] rfl ?_
    obtain ⟨v2, hv2, h⟩ := Option.bind_eq_some_iff.mp h
    refine rn_gI (c := 0) (f := 2) rfl rfl ⟨⟨rfl, rfl⟩, Or.inl rfl⟩ hv2 ?_
    refine rn_steps 0 10 [.ref l0, .int l1] [.int v2, .int l1] rfl ?_
    refine rn_br (c := v2 ≤ l1) rfl rfl decide_eq_true_iff (fun hb => ?_) (fun hb => ?_)
    · rw [if_pos hb] at h
      refine rn_steps 0 41 [.ref l0, .int l1] [] rfl ?_
      exact e33_41 d _ _ _ _ h
    · rw [if_neg hb] at h
      refine rn_steps 2 16 [.ref l0, .int l1] [.int 6, .int l1] rfl ?_
      refine rn_br (c := 6 ≤ l1) rfl rfl decide_eq_true_iff (fun hb => ?_) (fun hb => ?_)
      · rw [if_pos hb] at h
        refine rn_steps 0 41 [.ref l0, .int l1] [] rfl ?_
        exact e33_41 d _ _ _ _ h
      · rw [if_neg hb] at h
        refine rn_steps 1 20 [.ref l0, .int l1] [.ref l0] rfl ?_
        obtain ⟨r3, hr3, h⟩ := Option.bind_eq_some_iff.mp h
        refine rn_gR (c := 3) (f := 12) rfl rfl ⟨⟨rfl, rfl⟩, rfl⟩ hr3 ?_
        refine rn_steps 1 24 [.ref l0, .int l1] [.int l1, .ref r3] rfl ?_
        obtain ⟨v4, hv4, h⟩ := Option.bind_eq_some_iff.mp h
        refine rn_aJ rfl hv4 ?_
        refine rn_steps 1 26 [.ref l0, .int l1] [.ref l0, .long v4] rfl ?_
        obtain ⟨v5, hv5, h⟩ := Option.bind_eq_some_iff.mp h
        refine rn_gJ (c := 3) (f := 10) rfl rfl ⟨⟨rfl, rfl⟩, rfl⟩ hv5 ?_
        refine rn_steps 1 30 [.ref l0, .int l1] [.int (lg_cmp v4 v5)] rfl ?_
        refine rn_br (c := ¬ (lg_cmp v4 v5) = 0) rfl rfl decide_eq_true_iff (fun hb => ?_) (fun hb => ?_)
        · rw [if_neg hb] at h
          refine rn_steps 2 2 [.ref l0, .int (l1 + 1)] [] rfl ?_
          exact ih _ _ _ _ h
        · rw [if_pos (Decidable.not_not.mp hb)] at h
          refine rn_steps 1 34 [.ref l0, .int l1] [.int l1] rfl ?_
          cases h
          exact rn_ret rfl rfl rfl
/-- LastAsked$Reader.bearer()I -/
noncomputable def f33 (l0 : Nat) (σ : xM) : Option (Int32 × xM) :=
  f33_2 1100 l0 0 σ
set_option maxRecDepth 20000 in
set_option maxHeartbeats 1000000 in
theorem e33 (d : Nat) {l0 : Nat} {σ : xM} {y : Int32 × xM} (h : f33 l0 σ = some y) : Rn (d + 0) 33 0 [.ref l0, .retAddr 0] [] σ (some (.int y.1), y.2) := by
  unfold f33 at h
  refine rn_steps 2 2 [.ref l0, .int 0] [] rfl ?_
  exact e33_2 d 1100 _ _ _ _ h
noncomputable def f39_62 (s0 : Int32) (σ : xM) : Option (Int32 × xM) :=
  some (s0, σ)
set_option maxRecDepth 20000 in
set_option maxHeartbeats 1000000 in
theorem e39_62 (d : Nat) (s0 : Int32) (x0 : Value) (σ : xM) (y : Int32 × xM) (h : f39_62 s0 σ = some y) : Rn (d + 2) 39 62 [x0] [.int s0] σ (some (.int y.1), y.2) := by
  unfold f39_62 at h
  cases h
  exact rn_ret rfl rfl rfl
/-- LastAsked$Reader.takeKind()I -/
noncomputable def f39 (l0 : Nat) (σ : xM) : Option (Int32 × xM) :=
  (cO σ l0 3).bind fun u10 =>
  (f26 l0 σ).bind fun y1 =>
  (cO y1.2 l0 3).bind fun u9 =>
  (f29 l0 482854660462 y1.2).bind fun y2 =>
  if y2.1 = 0 then
  (cO y2.2 l0 3).bind fun u8 =>
  (f29 l0 1936225652 y2.2).bind fun y3 =>
  if y3.1 = 0 then
  (cO y3.2 l0 3).bind fun u7 =>
  (f29 l0 131260314576228 y3.2).bind fun y4 =>
  if y4.1 = 0 then
  (cO y4.2 l0 3).bind fun u6 =>
  (f29 l0 110429572722546 y4.2).bind fun y5 =>
  if y5.1 = 0 then
  f39_62 (-1) y5.2
  else
  f39_62 3 y5.2
  else
  f39_62 2 y4.2
  else
  f39_62 1 y3.2
  else
  f39_62 0 y2.2
set_option maxRecDepth 20000 in
set_option maxHeartbeats 1000000 in
theorem e39 (d : Nat) {l0 : Nat} {σ : xM} {y : Int32 × xM} (h : f39 l0 σ = some y) : Rn (d + 2) 39 0 [.ref l0] [] σ (some (.int y.1), y.2) := by
  unfold f39 at h
  refine rn_steps 1 1 [.ref l0] [.ref l0] rfl ?_
  obtain ⟨u10, hu10, h⟩ := Option.bind_eq_some_iff.mp h
  obtain ⟨y1, hy1, h⟩ := Option.bind_eq_some_iff.mp h
  refine rn_callV [] rfl rfl ⟨rfl, rfl⟩ hu10 rfl rfl (e26 d hy1) ?_
  refine rn_steps 3 9 [.ref l0] [.long 482854660462, .ref l0] rfl ?_
  obtain ⟨u9, hu9, h⟩ := Option.bind_eq_some_iff.mp h
  obtain ⟨y2, hy2, h⟩ := Option.bind_eq_some_iff.mp h
  refine rn_callV [.long 482854660462] rfl rfl ⟨rfl, rfl⟩ hu9 rfl rfl (e29 (d + 1) hy2) ?_
  refine rn_steps 0 12 [.ref l0] [.int y2.1] rfl ?_
  refine rn_br (c := y2.1 = 0) rfl rfl decide_eq_true_iff (fun hb => ?_) (fun hb => ?_)
  · rw [if_pos hb] at h
    refine rn_steps 2 23 [.ref l0] [.long 1936225652, .ref l0] rfl ?_
    obtain ⟨u8, hu8, h⟩ := Option.bind_eq_some_iff.mp h
    obtain ⟨y3, hy3, h⟩ := Option.bind_eq_some_iff.mp h
    refine rn_callV [.long 1936225652] rfl rfl ⟨rfl, rfl⟩ hu8 rfl rfl (e29 (d + 1) hy3) ?_
    refine rn_steps 0 26 [.ref l0] [.int y3.1] rfl ?_
    refine rn_br (c := y3.1 = 0) rfl rfl decide_eq_true_iff (fun hb => ?_) (fun hb => ?_)
    · rw [if_pos hb] at h
      refine rn_steps 2 37 [.ref l0] [.long 131260314576228, .ref l0] rfl ?_
      obtain ⟨u7, hu7, h⟩ := Option.bind_eq_some_iff.mp h
      obtain ⟨y4, hy4, h⟩ := Option.bind_eq_some_iff.mp h
      refine rn_callV [.long 131260314576228] rfl rfl ⟨rfl, rfl⟩ hu7 rfl rfl (e29 (d + 1) hy4) ?_
      refine rn_steps 0 40 [.ref l0] [.int y4.1] rfl ?_
      refine rn_br (c := y4.1 = 0) rfl rfl decide_eq_true_iff (fun hb => ?_) (fun hb => ?_)
      · rw [if_pos hb] at h
        refine rn_steps 2 51 [.ref l0] [.long 110429572722546, .ref l0] rfl ?_
        obtain ⟨u6, hu6, h⟩ := Option.bind_eq_some_iff.mp h
        obtain ⟨y5, hy5, h⟩ := Option.bind_eq_some_iff.mp h
        refine rn_callV [.long 110429572722546] rfl rfl ⟨rfl, rfl⟩ hu6 rfl rfl (e29 (d + 1) hy5) ?_
        refine rn_steps 0 54 [.ref l0] [.int y5.1] rfl ?_
        refine rn_br (c := y5.1 = 0) rfl rfl decide_eq_true_iff (fun hb => ?_) (fun hb => ?_)
        · rw [if_pos hb] at h
          refine rn_steps 1 62 [.ref l0] [.int (-1)] rfl ?_
          exact e39_62 d _ _ _ _ h
        · rw [if_neg hb] at h
          refine rn_steps 2 62 [.ref l0] [.int 3] rfl ?_
          exact e39_62 d _ _ _ _ h
      · rw [if_neg hb] at h
        refine rn_steps 2 62 [.ref l0] [.int 2] rfl ?_
        exact e39_62 d _ _ _ _ h
    · rw [if_neg hb] at h
      refine rn_steps 2 62 [.ref l0] [.int 1] rfl ?_
      exact e39_62 d _ _ _ _ h
  · rw [if_neg hb] at h
    refine rn_steps 2 62 [.ref l0] [.int 0] rfl ?_
    exact e39_62 d _ _ _ _ h
noncomputable def f38_135 (σ : xM) : Option (Int32 × xM) :=
  rZ 0 σ
set_option maxRecDepth 20000 in
set_option maxHeartbeats 1000000 in
theorem e38_135 (d : Nat) (x0 x1 : Value) (σ : xM) (y : Int32 × xM) (h : f38_135 σ = some y) : Rn (d + 3) 38 135 [x0, x1] [] σ (some (.int y.1), y.2) := by
  unfold f38_135 at h
  refine rn_steps 1 136 [x0, x1] [.int 0] rfl ?_
  exact rn_retZ rfl rfl h
noncomputable def f38_101 (σ : xM) : Option (Int32 × xM) :=
  rZ 0 σ
set_option maxRecDepth 20000 in
set_option maxHeartbeats 1000000 in
theorem e38_101 (d : Nat) (x0 x1 : Value) (σ : xM) (y : Int32 × xM) (h : f38_101 σ = some y) : Rn (d + 3) 38 101 [x0, x1] [] σ (some (.int y.1), y.2) := by
  unfold f38_101 at h
  refine rn_steps 1 102 [x0, x1] [.int 0] rfl ?_
  exact rn_retZ rfl rfl h
/-- LastAsked$Reader.readNewPerson()Z -/
noncomputable def f38 (l0 : Nat) (σ : xM) : Option (Int32 × xM) :=
  (gR σ l0 3 2).bind fun r1 =>
  (gI σ r1 0 2).bind fun v2 =>
  (cO σ l0 3).bind fun u44 =>
  (f26 l0 σ).bind fun y3 =>
  (cO y3.2 l0 3).bind fun u43 =>
  (f32 l0 y3.2).bind fun y4 =>
  if y4.1 = 0 then
  (cO y4.2 l0 3).bind fun u42 =>
  (f25 l0 1 y4.2).bind fun y41 =>
  rZ y41.1 y41.2
  else
  (cO y4.2 l0 3).bind fun u40 =>
  (f33 l0 y4.2).bind fun y5 =>
  if y5.1 = (-1) then
  (gR y5.2 l0 3 12).bind fun r6 =>
  (gJ y5.2 l0 3 10).bind fun v7 =>
  (tJ y5.2 r6 v2 v7).bind fun σ8 =>
  (gR σ8 l0 3 2).bind fun r9 =>
  (gR σ8 r9 0 7).bind fun r10 =>
  (cO σ8 l0 3).bind fun u37 =>
  (f39 l0 σ8).bind fun y11 =>
  (tI y11.2 r10 v2 y11.1).bind fun σ12 =>
  (gR σ12 l0 3 2).bind fun r13 =>
  (gR σ12 r13 0 7).bind fun r14 =>
  (aI σ12 r14 v2).bind fun v15 =>
  if v15 = (-1) then
  (cO σ12 l0 3).bind fun u36 =>
  (f25 l0 1 σ12).bind fun y35 =>
  rZ y35.1 y35.2
  else
  (cO σ12 l0 3).bind fun u34 =>
  (f30 l0 6840691 σ12).bind fun y16 =>
  if y16.1 = 0 then
  f38_101 y16.2
  else
  (cO y16.2 l0 3).bind fun u33 =>
  (f31 l0 99 y16.2).bind fun y17 =>
  if y17.1 = 0 then
  f38_101 y17.2
  else
  (gR y17.2 l0 3 2).bind fun r18 =>
  (gR y17.2 r18 0 8).bind fun r19 =>
  (gI y17.2 l0 3 9).bind fun v20 =>
  (tI y17.2 r19 v2 v20).bind fun σ21 =>
  (cO σ21 l0 3).bind fun u32 =>
  (f30 l0 1684628851 σ21).bind fun y22 =>
  if y22.1 = 0 then
  f38_135 y22.2
  else
  (cO y22.2 l0 3).bind fun u31 =>
  (f31 l0 100 y22.2).bind fun y23 =>
  if y23.1 = 0 then
  f38_135 y23.2
  else
  (gR y23.2 l0 3 2).bind fun r24 =>
  (gR y23.2 r24 0 9).bind fun r25 =>
  (gI y23.2 l0 3 9).bind fun v26 =>
  (tI y23.2 r25 v2 v26).bind fun σ27 =>
  (gR σ27 l0 3 2).bind fun r28 =>
  (gI σ27 r28 0 2).bind fun v29 =>
  (pI σ27 r28 0 2 (v29 + 1)).bind fun σ30 =>
  rZ 1 σ30
  else
  (cO y5.2 l0 3).bind fun u39 =>
  (f25 l0 3 y5.2).bind fun y38 =>
  rZ y38.1 y38.2
set_option maxRecDepth 20000 in
set_option maxHeartbeats 1000000 in
theorem e38 (d : Nat) {l0 : Nat} {σ : xM} {y : Int32 × xM} (h : f38 l0 σ = some y) : Rn (d + 3) 38 0 [.ref l0, .retAddr 0] [] σ (some (.int y.1), y.2) := by
  unfold f38 at h
  refine rn_steps 1 1 [.ref l0, .retAddr 0] [.ref l0] rfl ?_
  obtain ⟨r1, hr1, h⟩ := Option.bind_eq_some_iff.mp h
  refine rn_gR (c := 3) (f := 2) rfl rfl ⟨⟨rfl, rfl⟩, rfl⟩ hr1 ?_
  refine rn_steps 0 4 [.ref l0, .retAddr 0] [.ref r1] rfl ?_
  obtain ⟨v2, hv2, h⟩ := Option.bind_eq_some_iff.mp h
  refine rn_gI (c := 0) (f := 2) rfl rfl ⟨⟨rfl, rfl⟩, Or.inl rfl⟩ hv2 ?_
  refine rn_steps 2 9 [.ref l0, .int v2] [.ref l0] rfl ?_
  obtain ⟨u44, hu44, h⟩ := Option.bind_eq_some_iff.mp h
  obtain ⟨y3, hy3, h⟩ := Option.bind_eq_some_iff.mp h
  refine rn_callV [] rfl rfl ⟨rfl, rfl⟩ hu44 rfl rfl (e26 (d + 1) hy3) ?_
  refine rn_steps 2 14 [.ref l0, .int v2] [.ref l0] rfl ?_
  obtain ⟨u43, hu43, h⟩ := Option.bind_eq_some_iff.mp h
  obtain ⟨y4, hy4, h⟩ := Option.bind_eq_some_iff.mp h
  refine rn_callV [] rfl rfl ⟨rfl, rfl⟩ hu43 rfl rfl (e32 (d + 2) hy4) ?_
  refine rn_steps 0 17 [.ref l0, .int v2] [.int y4.1] rfl ?_
  refine rn_br (c := ¬ y4.1 = 0) rfl rfl decide_eq_true_iff (fun hb => ?_) (fun hb => ?_)
  · rw [if_neg hb] at h
    refine rn_steps 1 27 [.ref l0, .int v2] [.ref l0] rfl ?_
    obtain ⟨u40, hu40, h⟩ := Option.bind_eq_some_iff.mp h
    obtain ⟨y5, hy5, h⟩ := Option.bind_eq_some_iff.mp h
    refine rn_callV [] rfl rfl ⟨rfl, rfl⟩ hu40 rfl rfl (e33 (d + 2) hy5) ?_
    refine rn_steps 1 31 [.ref l0, .int v2] [.int (-1), .int y5.1] rfl ?_
    refine rn_br (c := y5.1 = (-1)) rfl rfl decide_eq_true_iff (fun hb => ?_) (fun hb => ?_)
    · rw [if_pos hb] at h
      refine rn_steps 1 41 [.ref l0, .int v2] [.ref l0] rfl ?_
      obtain ⟨r6, hr6, h⟩ := Option.bind_eq_some_iff.mp h
      refine rn_gR (c := 3) (f := 12) rfl rfl ⟨⟨rfl, rfl⟩, rfl⟩ hr6 ?_
      refine rn_steps 2 46 [.ref l0, .int v2] [.ref l0, .int v2, .ref r6] rfl ?_
      obtain ⟨v7, hv7, h⟩ := Option.bind_eq_some_iff.mp h
      refine rn_gJ (c := 3) (f := 10) rfl rfl ⟨⟨rfl, rfl⟩, rfl⟩ hv7 ?_
      refine rn_steps 0 49 [.ref l0, .int v2] [.long v7, .int v2, .ref r6] rfl ?_
      obtain ⟨σ8, hσ8, h⟩ := Option.bind_eq_some_iff.mp h
      refine rn_tJ rfl hσ8 ?_
      refine rn_steps 1 51 [.ref l0, .int v2] [.ref l0] rfl ?_
      obtain ⟨r9, hr9, h⟩ := Option.bind_eq_some_iff.mp h
      refine rn_gR (c := 3) (f := 2) rfl rfl ⟨⟨rfl, rfl⟩, rfl⟩ hr9 ?_
      refine rn_steps 0 54 [.ref l0, .int v2] [.ref r9] rfl ?_
      obtain ⟨r10, hr10, h⟩ := Option.bind_eq_some_iff.mp h
      refine rn_gR (c := 0) (f := 7) rfl rfl ⟨⟨rfl, rfl⟩, rfl⟩ hr10 ?_
      refine rn_steps 2 59 [.ref l0, .int v2] [.ref l0, .int v2, .ref r10] rfl ?_
      obtain ⟨u37, hu37, h⟩ := Option.bind_eq_some_iff.mp h
      obtain ⟨y11, hy11, h⟩ := Option.bind_eq_some_iff.mp h
      refine rn_callV [] rfl rfl ⟨rfl, rfl⟩ hu37 rfl rfl (e39 d hy11) ?_
      refine rn_steps 0 62 [.ref l0, .int v2] [.int y11.1, .int v2, .ref r10] rfl ?_
      obtain ⟨σ12, hσ12, h⟩ := Option.bind_eq_some_iff.mp h
      refine rn_tI rfl hσ12 ?_
      refine rn_steps 1 64 [.ref l0, .int v2] [.ref l0] rfl ?_
      obtain ⟨r13, hr13, h⟩ := Option.bind_eq_some_iff.mp h
      refine rn_gR (c := 3) (f := 2) rfl rfl ⟨⟨rfl, rfl⟩, rfl⟩ hr13 ?_
      refine rn_steps 0 67 [.ref l0, .int v2] [.ref r13] rfl ?_
      obtain ⟨r14, hr14, h⟩ := Option.bind_eq_some_iff.mp h
      refine rn_gR (c := 0) (f := 7) rfl rfl ⟨⟨rfl, rfl⟩, rfl⟩ hr14 ?_
      refine rn_steps 1 71 [.ref l0, .int v2] [.int v2, .ref r14] rfl ?_
      obtain ⟨v15, hv15, h⟩ := Option.bind_eq_some_iff.mp h
      refine rn_aI rfl hv15 ?_
      refine rn_steps 1 73 [.ref l0, .int v2] [.int (-1), .int v15] rfl ?_
      refine rn_br (c := ¬ v15 = (-1)) rfl rfl decide_eq_true_iff (fun hb => ?_) (fun hb => ?_)
      · rw [if_neg hb] at h
        refine rn_steps 2 86 [.ref l0, .int v2] [.long 6840691, .ref l0] rfl ?_
        obtain ⟨u34, hu34, h⟩ := Option.bind_eq_some_iff.mp h
        obtain ⟨y16, hy16, h⟩ := Option.bind_eq_some_iff.mp h
        refine rn_callV [.long 6840691] rfl rfl ⟨rfl, rfl⟩ hu34 rfl rfl (e30 d hy16) ?_
        refine rn_steps 0 89 [.ref l0, .int v2] [.int y16.1] rfl ?_
        refine rn_br (c := y16.1 = 0) rfl rfl decide_eq_true_iff (fun hb => ?_) (fun hb => ?_)
        · rw [if_pos hb] at h
          refine rn_steps 0 101 [.ref l0, .int v2] [] rfl ?_
          exact e38_101 d _ _ _ _ h
        · rw [if_neg hb] at h
          refine rn_steps 2 95 [.ref l0, .int v2] [.int 99, .ref l0] rfl ?_
          obtain ⟨u33, hu33, h⟩ := Option.bind_eq_some_iff.mp h
          obtain ⟨y17, hy17, h⟩ := Option.bind_eq_some_iff.mp h
          refine rn_callV [.int 99] rfl rfl ⟨rfl, rfl⟩ hu33 rfl rfl (e31 d hy17) ?_
          refine rn_steps 0 98 [.ref l0, .int v2] [.int y17.1] rfl ?_
          refine rn_br (c := ¬ y17.1 = 0) rfl rfl decide_eq_true_iff (fun hb => ?_) (fun hb => ?_)
          · rw [if_neg hb] at h
            refine rn_steps 1 104 [.ref l0, .int v2] [.ref l0] rfl ?_
            obtain ⟨r18, hr18, h⟩ := Option.bind_eq_some_iff.mp h
            refine rn_gR (c := 3) (f := 2) rfl rfl ⟨⟨rfl, rfl⟩, rfl⟩ hr18 ?_
            refine rn_steps 0 107 [.ref l0, .int v2] [.ref r18] rfl ?_
            obtain ⟨r19, hr19, h⟩ := Option.bind_eq_some_iff.mp h
            refine rn_gR (c := 0) (f := 8) rfl rfl ⟨⟨rfl, rfl⟩, rfl⟩ hr19 ?_
            refine rn_steps 2 112 [.ref l0, .int v2] [.ref l0, .int v2, .ref r19] rfl ?_
            obtain ⟨v20, hv20, h⟩ := Option.bind_eq_some_iff.mp h
            refine rn_gI (c := 3) (f := 9) rfl rfl ⟨⟨rfl, rfl⟩, Or.inl rfl⟩ hv20 ?_
            refine rn_steps 0 115 [.ref l0, .int v2] [.int v20, .int v2, .ref r19] rfl ?_
            obtain ⟨σ21, hσ21, h⟩ := Option.bind_eq_some_iff.mp h
            refine rn_tI rfl hσ21 ?_
            refine rn_steps 2 120 [.ref l0, .int v2] [.long 1684628851, .ref l0] rfl ?_
            obtain ⟨u32, hu32, h⟩ := Option.bind_eq_some_iff.mp h
            obtain ⟨y22, hy22, h⟩ := Option.bind_eq_some_iff.mp h
            refine rn_callV [.long 1684628851] rfl rfl ⟨rfl, rfl⟩ hu32 rfl rfl (e30 d hy22) ?_
            refine rn_steps 0 123 [.ref l0, .int v2] [.int y22.1] rfl ?_
            refine rn_br (c := y22.1 = 0) rfl rfl decide_eq_true_iff (fun hb => ?_) (fun hb => ?_)
            · rw [if_pos hb] at h
              refine rn_steps 0 135 [.ref l0, .int v2] [] rfl ?_
              exact e38_135 d _ _ _ _ h
            · rw [if_neg hb] at h
              refine rn_steps 2 129 [.ref l0, .int v2] [.int 100, .ref l0] rfl ?_
              obtain ⟨u31, hu31, h⟩ := Option.bind_eq_some_iff.mp h
              obtain ⟨y23, hy23, h⟩ := Option.bind_eq_some_iff.mp h
              refine rn_callV [.int 100] rfl rfl ⟨rfl, rfl⟩ hu31 rfl rfl (e31 d hy23) ?_
              refine rn_steps 0 132 [.ref l0, .int v2] [.int y23.1] rfl ?_
              refine rn_br (c := ¬ y23.1 = 0) rfl rfl decide_eq_true_iff (fun hb => ?_) (fun hb => ?_)
              · rw [if_neg hb] at h
                refine rn_steps 1 138 [.ref l0, .int v2] [.ref l0] rfl ?_
                obtain ⟨r24, hr24, h⟩ := Option.bind_eq_some_iff.mp h
                refine rn_gR (c := 3) (f := 2) rfl rfl ⟨⟨rfl, rfl⟩, rfl⟩ hr24 ?_
                refine rn_steps 0 141 [.ref l0, .int v2] [.ref r24] rfl ?_
                obtain ⟨r25, hr25, h⟩ := Option.bind_eq_some_iff.mp h
                refine rn_gR (c := 0) (f := 9) rfl rfl ⟨⟨rfl, rfl⟩, rfl⟩ hr25 ?_
                refine rn_steps 2 146 [.ref l0, .int v2] [.ref l0, .int v2, .ref r25] rfl ?_
                obtain ⟨v26, hv26, h⟩ := Option.bind_eq_some_iff.mp h
                refine rn_gI (c := 3) (f := 9) rfl rfl ⟨⟨rfl, rfl⟩, Or.inl rfl⟩ hv26 ?_
                refine rn_steps 0 149 [.ref l0, .int v2] [.int v26, .int v2, .ref r25] rfl ?_
                obtain ⟨σ27, hσ27, h⟩ := Option.bind_eq_some_iff.mp h
                refine rn_tI rfl hσ27 ?_
                refine rn_steps 1 151 [.ref l0, .int v2] [.ref l0] rfl ?_
                obtain ⟨r28, hr28, h⟩ := Option.bind_eq_some_iff.mp h
                refine rn_gR (c := 3) (f := 2) rfl rfl ⟨⟨rfl, rfl⟩, rfl⟩ hr28 ?_
                refine rn_steps 1 155 [.ref l0, .int v2] [.ref r28, .ref r28] rfl ?_
                obtain ⟨v29, hv29, h⟩ := Option.bind_eq_some_iff.mp h
                refine rn_gI (c := 0) (f := 2) rfl rfl ⟨⟨rfl, rfl⟩, Or.inl rfl⟩ hv29 ?_
                refine rn_steps 2 160 [.ref l0, .int v2] [.int (v29 + 1), .ref r28] rfl ?_
                obtain ⟨σ30, hσ30, h⟩ := Option.bind_eq_some_iff.mp h
                refine rn_pI (c := 0) (f := 2) rfl rfl ⟨⟨rfl, rfl⟩, rfl⟩ hσ30 ?_
                refine rn_steps 1 164 [.ref l0, .int v2] [.int 1] rfl ?_
                exact rn_retZ rfl rfl h
              · rw [if_pos (Decidable.not_not.mp hb)] at h
                refine rn_steps 0 135 [.ref l0, .int v2] [] rfl ?_
                exact e38_135 d _ _ _ _ h
          · rw [if_pos (Decidable.not_not.mp hb)] at h
            refine rn_steps 0 101 [.ref l0, .int v2] [] rfl ?_
            exact e38_101 d _ _ _ _ h
      · rw [if_pos (Decidable.not_not.mp hb)] at h
        refine rn_steps 2 78 [.ref l0, .int v2] [.int 1, .ref l0] rfl ?_
        obtain ⟨u36, hu36, h⟩ := Option.bind_eq_some_iff.mp h
        obtain ⟨y35, hy35, h⟩ := Option.bind_eq_some_iff.mp h
        refine rn_callV [.int 1] rfl rfl ⟨rfl, rfl⟩ hu36 rfl rfl (e25 (d + 2) hy35) ?_
        refine rn_steps 0 81 [.ref l0, .int v2] [.int y35.1] rfl ?_
        exact rn_retZ rfl rfl h
    · rw [if_neg hb] at h
      refine rn_steps 2 36 [.ref l0, .int v2] [.int 3, .ref l0] rfl ?_
      obtain ⟨u39, hu39, h⟩ := Option.bind_eq_some_iff.mp h
      obtain ⟨y38, hy38, h⟩ := Option.bind_eq_some_iff.mp h
      refine rn_callV [.int 3] rfl rfl ⟨rfl, rfl⟩ hu39 rfl rfl (e25 (d + 2) hy38) ?_
      refine rn_steps 0 39 [.ref l0, .int v2] [.int y38.1] rfl ?_
      exact rn_retZ rfl rfl h
  · rw [if_pos (Decidable.not_not.mp hb)] at h
    refine rn_steps 2 22 [.ref l0, .int v2] [.int 1, .ref l0] rfl ?_
    obtain ⟨u42, hu42, h⟩ := Option.bind_eq_some_iff.mp h
    obtain ⟨y41, hy41, h⟩ := Option.bind_eq_some_iff.mp h
    refine rn_callV [.int 1] rfl rfl ⟨rfl, rfl⟩ hu42 rfl rfl (e25 (d + 2) hy41) ?_
    refine rn_steps 0 25 [.ref l0, .int v2] [.int y41.1] rfl ?_
    exact rn_retZ rfl rfl h
noncomputable def f34_38 (l1 : Int32) (σ : xM) : Option (Int32 × xM) :=
  some (l1, σ)
set_option maxRecDepth 20000 in
set_option maxHeartbeats 1000000 in
theorem e34_38 (d : Nat) (l1 : Int32) (x0 : Value) (σ : xM) (y : Int32 × xM) (h : f34_38 l1 σ = some y) : Rn (d + 1) 34 38 [x0, .int l1] [] σ (some (.int y.1), y.2) := by
  unfold f34_38 at h
  refine rn_steps 1 39 [x0, .int l1] [.int l1] rfl ?_
  cases h
  exact rn_ret rfl rfl rfl
noncomputable def f34_34 (l1 : Int32) (s0 : Int32) (s1 : Nat) (σ : xM) : Option (Int32 × xM) :=
  (cO σ s1 3).bind fun u2 =>
  (f25 s1 s0 σ).bind fun y1 =>
  f34_38 l1 y1.2
set_option maxRecDepth 20000 in
set_option maxHeartbeats 1000000 in
theorem e34_34 (d : Nat) (l1 : Int32) (s0 : Int32) (s1 : Nat) (x0 : Value) (σ : xM) (y : Int32 × xM) (h : f34_34 l1 s0 s1 σ = some y) : Rn (d + 1) 34 34 [x0, .int l1] [.int s0, .ref s1] σ (some (.int y.1), y.2) := by
  unfold f34_34 at h
  obtain ⟨u2, hu2, h⟩ := Option.bind_eq_some_iff.mp h
  obtain ⟨y1, hy1, h⟩ := Option.bind_eq_some_iff.mp h
  refine rn_callV [.int s0] rfl rfl ⟨rfl, rfl⟩ hu2 rfl rfl (e25 d hy1) ?_
  refine rn_steps 1 38 [x0, .int l1] [] rfl ?_
  exact e34_38 d _ _ _ _ h
noncomputable def f34_15 (l0 : Nat) (s0 : Int32) (σ : xM) : Option (Int32 × xM) :=
  if s0 = (-1) then
  (cO σ l0 3).bind fun u2 =>
  (f32 l0 σ).bind fun y1 =>
  if y1.1 = 0 then
  f34_34 s0 1 l0 y1.2
  else
  f34_34 s0 2 l0 y1.2
  else
  f34_38 s0 σ
set_option maxRecDepth 20000 in
set_option maxHeartbeats 1000000 in
theorem e34_15 (d : Nat) (l0 : Nat) (s0 : Int32) (x1 : Value) (σ : xM) (y : Int32 × xM) (h : f34_15 l0 s0 σ = some y) : Rn (d + 1) 34 15 [.ref l0, x1] [.int s0] σ (some (.int y.1), y.2) := by
  unfold f34_15 at h
  refine rn_steps 3 18 [.ref l0, .int s0] [.int (-1), .int s0] rfl ?_
  refine rn_br (c := ¬ s0 = (-1)) rfl rfl decide_eq_true_iff (fun hb => ?_) (fun hb => ?_)
  · rw [if_neg hb] at h
    refine rn_steps 0 38 [.ref l0, .int s0] [] rfl ?_
    exact e34_38 d _ _ _ _ h
  · rw [if_pos (Decidable.not_not.mp hb)] at h
    refine rn_steps 2 23 [.ref l0, .int s0] [.ref l0, .ref l0] rfl ?_
    obtain ⟨u2, hu2, h⟩ := Option.bind_eq_some_iff.mp h
    obtain ⟨y1, hy1, h⟩ := Option.bind_eq_some_iff.mp h
    refine rn_callV [] rfl rfl ⟨rfl, rfl⟩ hu2 rfl rfl (e32 d hy1) ?_
    refine rn_steps 0 26 [.ref l0, .int s0] [.int y1.1, .ref l0] rfl ?_
    refine rn_br (c := y1.1 = 0) rfl rfl decide_eq_true_iff (fun hb => ?_) (fun hb => ?_)
    · rw [if_pos hb] at h
      refine rn_steps 1 34 [.ref l0, .int s0] [.int 1, .ref l0] rfl ?_
      exact e34_34 d _ _ _ _ _ _ h
    · rw [if_neg hb] at h
      refine rn_steps 2 34 [.ref l0, .int s0] [.int 2, .ref l0] rfl ?_
      exact e34_34 d _ _ _ _ _ _ h
/-- LastAsked$Reader.personHere()I -/
noncomputable def f34 (l0 : Nat) (σ : xM) : Option (Int32 × xM) :=
  (cO σ l0 3).bind fun u4 =>
  (f32 l0 σ).bind fun y1 =>
  if y1.1 = 0 then
  f34_15 l0 (-1) y1.2
  else
  (cO y1.2 l0 3).bind fun u3 =>
  (f33 l0 y1.2).bind fun y2 =>
  f34_15 l0 y2.1 y2.2
set_option maxRecDepth 20000 in
set_option maxHeartbeats 1000000 in
theorem e34 (d : Nat) {l0 : Nat} {σ : xM} {y : Int32 × xM} (h : f34 l0 σ = some y) : Rn (d + 1) 34 0 [.ref l0, .retAddr 0] [] σ (some (.int y.1), y.2) := by
  unfold f34 at h
  refine rn_steps 1 1 [.ref l0, .retAddr 0] [.ref l0] rfl ?_
  obtain ⟨u4, hu4, h⟩ := Option.bind_eq_some_iff.mp h
  obtain ⟨y1, hy1, h⟩ := Option.bind_eq_some_iff.mp h
  refine rn_callV [] rfl rfl ⟨rfl, rfl⟩ hu4 rfl rfl (e32 d hy1) ?_
  refine rn_steps 0 4 [.ref l0, .retAddr 0] [.int y1.1] rfl ?_
  refine rn_br (c := y1.1 = 0) rfl rfl decide_eq_true_iff (fun hb => ?_) (fun hb => ?_)
  · rw [if_pos hb] at h
    refine rn_steps 1 15 [.ref l0, .retAddr 0] [.int (-1)] rfl ?_
    exact e34_15 d _ _ _ _ _ h
  · rw [if_neg hb] at h
    refine rn_steps 1 8 [.ref l0, .retAddr 0] [.ref l0] rfl ?_
    obtain ⟨u3, hu3, h⟩ := Option.bind_eq_some_iff.mp h
    obtain ⟨y2, hy2, h⟩ := Option.bind_eq_some_iff.mp h
    refine rn_callV [] rfl rfl ⟨rfl, rfl⟩ hu3 rfl rfl (e33 d hy2) ?_
    refine rn_steps 1 15 [.ref l0, .retAddr 0] [.int y2.1] rfl ?_
    exact e34_15 d _ _ _ _ _ h
/-- LastAsked$Reader.takePerson()I -/
noncomputable def f35 (l0 : Nat) (σ : xM) : Option (Int32 × xM) :=
  (cO σ l0 3).bind fun u4 =>
  (f26 l0 σ).bind fun y1 =>
  (cO y1.2 l0 3).bind fun u3 =>
  (f34 l0 y1.2).bind fun y2 =>
  some (y2.1, y2.2)
set_option maxRecDepth 20000 in
set_option maxHeartbeats 1000000 in
theorem e35 (d : Nat) {l0 : Nat} {σ : xM} {y : Int32 × xM} (h : f35 l0 σ = some y) : Rn (d + 2) 35 0 [.ref l0] [] σ (some (.int y.1), y.2) := by
  unfold f35 at h
  refine rn_steps 1 1 [.ref l0] [.ref l0] rfl ?_
  obtain ⟨u4, hu4, h⟩ := Option.bind_eq_some_iff.mp h
  obtain ⟨y1, hy1, h⟩ := Option.bind_eq_some_iff.mp h
  refine rn_callV [] rfl rfl ⟨rfl, rfl⟩ hu4 rfl rfl (e26 d hy1) ?_
  refine rn_steps 2 6 [.ref l0] [.ref l0] rfl ?_
  obtain ⟨u3, hu3, h⟩ := Option.bind_eq_some_iff.mp h
  obtain ⟨y2, hy2, h⟩ := Option.bind_eq_some_iff.mp h
  refine rn_callV [] rfl rfl ⟨rfl, rfl⟩ hu3 rfl rfl (e34 d hy2) ?_
  refine rn_steps 0 9 [.ref l0] [.int y2.1] rfl ?_
  cases h
  exact rn_ret rfl rfl rfl
noncomputable def f40_45 (l0 : Nat) (σ : xM) : Option (Int32 × xM) :=
  (cO σ l0 3).bind fun u2 =>
  (f25 l0 3 σ).bind fun y1 =>
  rZ y1.1 y1.2
set_option maxRecDepth 20000 in
set_option maxHeartbeats 1000000 in
theorem e40_45 (d : Nat) (l0 : Nat) (x1 x2 : Value) (σ : xM) (y : Int32 × xM) (h : f40_45 l0 σ = some y) : Rn (d + 3) 40 45 [.ref l0, x1, x2] [] σ (some (.int y.1), y.2) := by
  unfold f40_45 at h
  refine rn_steps 2 47 [.ref l0, x1, x2] [.int 3, .ref l0] rfl ?_
  obtain ⟨u2, hu2, h⟩ := Option.bind_eq_some_iff.mp h
  obtain ⟨y1, hy1, h⟩ := Option.bind_eq_some_iff.mp h
  refine rn_callV [.int 3] rfl rfl ⟨rfl, rfl⟩ hu2 rfl rfl (e25 (d + 2) hy1) ?_
  refine rn_steps 0 50 [.ref l0, x1, x2] [.int y1.1] rfl ?_
  exact rn_retZ rfl rfl h
/-- LastAsked$Reader.readNear()Z -/
noncomputable def f40 (l0 : Nat) (σ : xM) : Option (Int32 × xM) :=
  (cO σ l0 3).bind fun u19 =>
  (f35 l0 σ).bind fun y1 =>
  if y1.1 = (-1) then
  rZ 0 y1.2
  else
  (cO y1.2 l0 3).bind fun u18 =>
  (f35 l0 y1.2).bind fun y2 =>
  if y2.1 = (-1) then
  rZ 0 y2.2
  else
  if y2.1 = y1.1 then
  f40_45 l0 y2.2
  else
  (gR y2.2 l0 3 2).bind fun r3 =>
  (gR y2.2 r3 0 10).bind fun r4 =>
  (aI y2.2 r4 y1.1).bind fun v5 =>
  (f124 v5 y2.1 y2.2).bind fun y6 =>
  if y6.1 = 0 then
  (gR y6.2 l0 3 2).bind fun r7 =>
  (gR y6.2 r7 0 10).bind fun r8 =>
  (aI y6.2 r8 y1.1).bind fun v9 =>
  (tI y6.2 r8 y1.1 (v9 ||| (1 <<< (y2.1 &&& 31)))).bind fun σ10 =>
  (gR σ10 l0 3 2).bind fun r11 =>
  (gR σ10 r11 0 10).bind fun r12 =>
  (aI σ10 r12 y2.1).bind fun v13 =>
  (tI σ10 r12 y2.1 (v13 ||| (1 <<< (y1.1 &&& 31)))).bind fun σ14 =>
  (gR σ14 l0 3 2).bind fun r15 =>
  (gI σ14 r15 0 3).bind fun v16 =>
  (pI σ14 r15 0 3 (v16 + 1)).bind fun σ17 =>
  rZ 1 σ17
  else
  f40_45 l0 y6.2
set_option maxRecDepth 20000 in
set_option maxHeartbeats 1000000 in
theorem e40 (d : Nat) {l0 : Nat} {σ : xM} {y : Int32 × xM} (h : f40 l0 σ = some y) : Rn (d + 3) 40 0 [.ref l0, .retAddr 0, .retAddr 0] [] σ (some (.int y.1), y.2) := by
  unfold f40 at h
  refine rn_steps 1 1 [.ref l0, .retAddr 0, .retAddr 0] [.ref l0] rfl ?_
  obtain ⟨u19, hu19, h⟩ := Option.bind_eq_some_iff.mp h
  obtain ⟨y1, hy1, h⟩ := Option.bind_eq_some_iff.mp h
  refine rn_callV [] rfl rfl ⟨rfl, rfl⟩ hu19 rfl rfl (e35 d hy1) ?_
  refine rn_steps 3 7 [.ref l0, .int y1.1, .retAddr 0] [.int (-1), .int y1.1] rfl ?_
  refine rn_br (c := ¬ y1.1 = (-1)) rfl rfl decide_eq_true_iff (fun hb => ?_) (fun hb => ?_)
  · rw [if_neg hb] at h
    refine rn_steps 1 13 [.ref l0, .int y1.1, .retAddr 0] [.ref l0] rfl ?_
    obtain ⟨u18, hu18, h⟩ := Option.bind_eq_some_iff.mp h
    obtain ⟨y2, hy2, h⟩ := Option.bind_eq_some_iff.mp h
    refine rn_callV [] rfl rfl ⟨rfl, rfl⟩ hu18 rfl rfl (e35 d hy2) ?_
    refine rn_steps 3 19 [.ref l0, .int y1.1, .int y2.1] [.int (-1), .int y2.1] rfl ?_
    refine rn_br (c := ¬ y2.1 = (-1)) rfl rfl decide_eq_true_iff (fun hb => ?_) (fun hb => ?_)
    · rw [if_neg hb] at h
      refine rn_steps 2 26 [.ref l0, .int y1.1, .int y2.1] [.int y1.1, .int y2.1] rfl ?_
      refine rn_br (c := y2.1 = y1.1) rfl rfl decide_eq_true_iff (fun hb => ?_) (fun hb => ?_)
      · rw [if_pos hb] at h
        refine rn_steps 0 45 [.ref l0, .int y1.1, .int y2.1] [] rfl ?_
        exact e40_45 d _ _ _ _ _ h
      · rw [if_neg hb] at h
        refine rn_steps 1 30 [.ref l0, .int y1.1, .int y2.1] [.ref l0] rfl ?_
        obtain ⟨r3, hr3, h⟩ := Option.bind_eq_some_iff.mp h
        refine rn_gR (c := 3) (f := 2) rfl rfl ⟨⟨rfl, rfl⟩, rfl⟩ hr3 ?_
        refine rn_steps 0 33 [.ref l0, .int y1.1, .int y2.1] [.ref r3] rfl ?_
        obtain ⟨r4, hr4, h⟩ := Option.bind_eq_some_iff.mp h
        refine rn_gR (c := 0) (f := 10) rfl rfl ⟨⟨rfl, rfl⟩, rfl⟩ hr4 ?_
        refine rn_steps 1 37 [.ref l0, .int y1.1, .int y2.1] [.int y1.1, .ref r4] rfl ?_
        obtain ⟨v5, hv5, h⟩ := Option.bind_eq_some_iff.mp h
        refine rn_aI rfl hv5 ?_
        refine rn_steps 1 39 [.ref l0, .int y1.1, .int y2.1] [.int y2.1, .int v5] rfl ?_
        obtain ⟨y6, hy6, h⟩ := Option.bind_eq_some_iff.mp h
        refine rn_callS [.int v5, .int y2.1] rfl rfl rfl ⟨rfl, rfl, rfl⟩ rfl rfl (e124 (d + 2) hy6) ?_
        refine rn_steps 0 42 [.ref l0, .int y1.1, .int y2.1] [.int y6.1] rfl ?_
        refine rn_br (c := y6.1 = 0) rfl rfl decide_eq_true_iff (fun hb => ?_) (fun hb => ?_)
        · rw [if_pos hb] at h
          refine rn_steps 1 52 [.ref l0, .int y1.1, .int y2.1] [.ref l0] rfl ?_
          obtain ⟨r7, hr7, h⟩ := Option.bind_eq_some_iff.mp h
          refine rn_gR (c := 3) (f := 2) rfl rfl ⟨⟨rfl, rfl⟩, rfl⟩ hr7 ?_
          refine rn_steps 0 55 [.ref l0, .int y1.1, .int y2.1] [.ref r7] rfl ?_
          obtain ⟨r8, hr8, h⟩ := Option.bind_eq_some_iff.mp h
          refine rn_gR (c := 0) (f := 10) rfl rfl ⟨⟨rfl, rfl⟩, rfl⟩ hr8 ?_
          refine rn_steps 2 60 [.ref l0, .int y1.1, .int y2.1] [.int y1.1, .ref r8, .int y1.1, .ref r8] rfl ?_
          obtain ⟨v9, hv9, h⟩ := Option.bind_eq_some_iff.mp h
          refine rn_aI rfl hv9 ?_
          refine rn_steps 4 65 [.ref l0, .int y1.1, .int y2.1] [.int (v9 ||| (1 <<< (y2.1 &&& 31))), .int y1.1, .ref r8] rfl ?_
          obtain ⟨σ10, hσ10, h⟩ := Option.bind_eq_some_iff.mp h
          refine rn_tI rfl hσ10 ?_
          refine rn_steps 1 67 [.ref l0, .int y1.1, .int y2.1] [.ref l0] rfl ?_
          obtain ⟨r11, hr11, h⟩ := Option.bind_eq_some_iff.mp h
          refine rn_gR (c := 3) (f := 2) rfl rfl ⟨⟨rfl, rfl⟩, rfl⟩ hr11 ?_
          refine rn_steps 0 70 [.ref l0, .int y1.1, .int y2.1] [.ref r11] rfl ?_
          obtain ⟨r12, hr12, h⟩ := Option.bind_eq_some_iff.mp h
          refine rn_gR (c := 0) (f := 10) rfl rfl ⟨⟨rfl, rfl⟩, rfl⟩ hr12 ?_
          refine rn_steps 2 75 [.ref l0, .int y1.1, .int y2.1] [.int y2.1, .ref r12, .int y2.1, .ref r12] rfl ?_
          obtain ⟨v13, hv13, h⟩ := Option.bind_eq_some_iff.mp h
          refine rn_aI rfl hv13 ?_
          refine rn_steps 4 80 [.ref l0, .int y1.1, .int y2.1] [.int (v13 ||| (1 <<< (y1.1 &&& 31))), .int y2.1, .ref r12] rfl ?_
          obtain ⟨σ14, hσ14, h⟩ := Option.bind_eq_some_iff.mp h
          refine rn_tI rfl hσ14 ?_
          refine rn_steps 1 82 [.ref l0, .int y1.1, .int y2.1] [.ref l0] rfl ?_
          obtain ⟨r15, hr15, h⟩ := Option.bind_eq_some_iff.mp h
          refine rn_gR (c := 3) (f := 2) rfl rfl ⟨⟨rfl, rfl⟩, rfl⟩ hr15 ?_
          refine rn_steps 1 86 [.ref l0, .int y1.1, .int y2.1] [.ref r15, .ref r15] rfl ?_
          obtain ⟨v16, hv16, h⟩ := Option.bind_eq_some_iff.mp h
          refine rn_gI (c := 0) (f := 3) rfl rfl ⟨⟨rfl, rfl⟩, Or.inl rfl⟩ hv16 ?_
          refine rn_steps 2 91 [.ref l0, .int y1.1, .int y2.1] [.int (v16 + 1), .ref r15] rfl ?_
          obtain ⟨σ17, hσ17, h⟩ := Option.bind_eq_some_iff.mp h
          refine rn_pI (c := 0) (f := 3) rfl rfl ⟨⟨rfl, rfl⟩, rfl⟩ hσ17 ?_
          refine rn_steps 1 95 [.ref l0, .int y1.1, .int y2.1] [.int 1] rfl ?_
          exact rn_retZ rfl rfl h
        · rw [if_neg hb] at h
          refine rn_steps 0 45 [.ref l0, .int y1.1, .int y2.1] [] rfl ?_
          exact e40_45 d _ _ _ _ _ h
    · rw [if_pos (Decidable.not_not.mp hb)] at h
      refine rn_steps 1 23 [.ref l0, .int y1.1, .int y2.1] [.int 0] rfl ?_
      exact rn_retZ rfl rfl h
  · rw [if_pos (Decidable.not_not.mp hb)] at h
    refine rn_steps 1 11 [.ref l0, .int y1.1, .retAddr 0] [.int 0] rfl ?_
    exact rn_retZ rfl rfl h
