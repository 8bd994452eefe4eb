noncomputable def f236_161 (l0 : Nat) (l3 : Int32) (σ : xM) : Option (Int32 × xM) :=
  (cO σ l0 9).bind fun u2 =>
  (f154 l0 l3 σ).bind fun y1 =>
  some (y1.1, y1.2)
set_option maxRecDepth 20000 in
set_option maxHeartbeats 1000000 in
theorem e236_161 (d : Nat) (l0 : Nat) (l3 : Int32) (x1 x2 x4 : Value) (σ : xM) (y : Int32 × xM) (h : f236_161 l0 l3 σ = some y) : Rn (d + 2) 236 161 [.ref l0, x1, x2, .int l3, x4] [] σ (some (.int y.1), y.2) := by
  unfold f236_161 at h
  refine rn_steps 2 163 [.ref l0, x1, x2, .int l3, x4] [.int l3, .ref l0] rfl ?_
  obtain ⟨u2, hu2, h⟩ := Option.bind_eq_some_iff.mp h
  obtain ⟨y1, hy1, h⟩ := Option.bind_eq_some_iff.mp h
  refine rn_callV [.int l3] rfl rfl ⟨rfl, rfl⟩ hu2 rfl rfl (e154 (d + 1) hy1) ?_
  refine rn_steps 0 166 [.ref l0, x1, x2, .int l3, x4] [.int y1.1] rfl ?_
  cases h
  exact rn_ret rfl rfl rfl
noncomputable def f236_155 (K74 : Nat → Int32 → Int32 → Int32 → Int32 → xM → Option (Int32 × xM)) (l0 : Nat) (l1 : Int32) (l2 : Int32) (l3 : Int32) (l4 : Int32) (σ : xM) : Option (Int32 × xM) :=
  K74 l0 l1 l2 l3 (l4 + 1) σ
set_option maxRecDepth 20000 in
set_option maxHeartbeats 1000000 in
theorem e236_155 (d : Nat) (K74 : Nat → Int32 → Int32 → Int32 → Int32 → xM → Option (Int32 × xM)) (hK74 : ∀ (l0 : Nat) (l1 : Int32) (l2 : Int32) (l3 : Int32) (l4 : Int32) (σ : xM) (y : Int32 × xM), K74 l0 l1 l2 l3 l4 σ = some y → Rn (d + 2) 236 74 [.ref l0, .int l1, .int l2, .int l3, .int l4] [] σ (some (.int y.1), y.2)) (l0 : Nat) (l1 : Int32) (l2 : Int32) (l3 : Int32) (l4 : Int32) (σ : xM) (y : Int32 × xM) (h : f236_155 K74 l0 l1 l2 l3 l4 σ = some y) : Rn (d + 2) 236 155 [.ref l0, .int l1, .int l2, .int l3, .int l4] [] σ (some (.int y.1), y.2) := by
  unfold f236_155 at h
  refine rn_steps 2 74 [.ref l0, .int l1, .int l2, .int l3, .int (l4 + 1)] [] rfl ?_
  exact hK74 _ _ _ _ _ _ _ h
noncomputable def f236_148 (K74 : Nat → Int32 → Int32 → Int32 → Int32 → xM → Option (Int32 × xM)) (l0 : Nat) (l1 : Int32) (l2 : Int32) (l3 : Int32) (l4 : Int32) (σ : xM) : Option (Int32 × xM) :=
  f236_155 K74 l0 l1 l2 (l3 ||| (1 <<< (l4 &&& 31))) l4 σ
set_option maxRecDepth 20000 in
set_option maxHeartbeats 1000000 in
theorem e236_148 (d : Nat) (K74 : Nat → Int32 → Int32 → Int32 → Int32 → xM → Option (Int32 × xM)) (hK74 : ∀ (l0 : Nat) (l1 : Int32) (l2 : Int32) (l3 : Int32) (l4 : Int32) (σ : xM) (y : Int32 × xM), K74 l0 l1 l2 l3 l4 σ = some y → Rn (d + 2) 236 74 [.ref l0, .int l1, .int l2, .int l3, .int l4] [] σ (some (.int y.1), y.2)) (l0 : Nat) (l1 : Int32) (l2 : Int32) (l3 : Int32) (l4 : Int32) (σ : xM) (y : Int32 × xM) (h : f236_148 K74 l0 l1 l2 l3 l4 σ = some y) : Rn (d + 2) 236 148 [.ref l0, .int l1, .int l2, .int l3, .int l4] [] σ (some (.int y.1), y.2) := by
  unfold f236_148 at h
  refine rn_steps 6 155 [.ref l0, .int l1, .int l2, .int (l3 ||| (1 <<< (l4 &&& 31))), .int l4] [] rfl ?_
  exact e236_155 d _ hK74 _ _ _ _ _ _ _ h
noncomputable def f236_74 : Nat → Nat → Int32 → Int32 → Int32 → Int32 → xM → Option (Int32 × xM)
  | 0, _, _, _, _, _, _ => none
  | n + 1, l0, l1, l2, l3, l4, σ =>
    (gR σ l0 9 3).bind fun r1 =>
    (gI σ r1 8 2).bind fun v2 =>
    if v2 ≤ l4 then
    f236_161 l0 l3 σ
    else
    if l4 = l1 then
    f236_155 (f236_74 n) l0 l1 l2 l3 l4 σ
    else
    if l4 = l2 then
    f236_155 (f236_74 n) l0 l1 l2 l3 l4 σ
    else
    (cO σ l0 9).bind fun u12 =>
    (f190 l0 l4 σ).bind fun y3 =>
    if y3.1 = 0 then
    f236_155 (f236_74 n) l0 l1 l2 l3 l4 y3.2
    else
    (cO y3.2 l0 9).bind fun u11 =>
    (f191 l0 l4 l2 y3.2).bind fun y4 =>
    (cO y4.2 l0 9).bind fun u10 =>
    (f191 l0 l1 l2 y4.2).bind fun y5 =>
    if y5.1 < y4.1 then
    f236_148 (f236_74 n) l0 l1 l2 l3 l4 y5.2
    else
    (cO y5.2 l0 9).bind fun u9 =>
    (f191 l0 l4 l2 y5.2).bind fun y6 =>
    (cO y6.2 l0 9).bind fun u8 =>
    (f191 l0 l1 l2 y6.2).bind fun y7 =>
    if y6.1 = y7.1 then
    if l1 ≤ l4 then
    f236_155 (f236_74 n) l0 l1 l2 l3 l4 y7.2
    else
    f236_148 (f236_74 n) l0 l1 l2 l3 l4 y7.2
    else
    f236_155 (f236_74 n) l0 l1 l2 l3 l4 y7.2
set_option maxRecDepth 20000 in
set_option maxHeartbeats 1000000 in
theorem e236_74 (d : Nat) : ∀ (n : Nat) (l0 : Nat) (l1 : Int32) (l2 : Int32) (l3 : Int32) (l4 : Int32) (σ : xM) (y : Int32 × xM), f236_74 n l0 l1 l2 l3 l4 σ = some y → Rn (d + 2) 236 74 [.ref l0, .int l1, .int l2, .int l3, .int l4] [] σ (some (.int y.1), y.2) := by
  intro n
  induction n with
  | zero => intro l0 l1 l2 l3 l4 σ y h; cases h
  | succ n ih =>
    intro l0 l1 l2 l3 l4 σ y h
    unfold f236_74 at h
    refine rn_steps 2 77 [.ref l0, .int l1, .int l2, .int l3, .int l4] [.ref l0, .int l4] rfl ?_
    obtain ⟨r1, hr1, h⟩ := Option.bind_eq_some_iff.mp h
    refine rn_gR (c := 9) (f := 3) rfl rfl ⟨⟨rfl, rfl⟩, rfl⟩ hr1 ?_
    refine rn_steps 0 80 [.ref l0, .int l1, .int l2, .int l3, .int l4] [.ref r1, .int l4] rfl ?_
    obtain ⟨v2, hv2, h⟩ := Option.bind_eq_some_iff.mp h
    refine rn_gI (c := 8) (f := 2) rfl rfl ⟨⟨rfl, rfl⟩, Or.inl rfl⟩ hv2 ?_
    refine rn_steps 0 83 [.ref l0, .int l1, .int l2, .int l3, .int l4] [.int v2, .int l4] rfl ?_
    refine rn_br (c := v2 ≤ l4) rfl rfl decide_eq_true_iff (fun hb => ?_) (fun hb => ?_)
    · rw [if_pos hb] at h
      refine rn_steps 0 161 [.ref l0, .int l1, .int l2, .int l3, .int l4] [] rfl ?_
      exact e236_161 d _ _ _ _ _ _ _ h
    · rw [if_neg hb] at h
      refine rn_steps 2 89 [.ref l0, .int l1, .int l2, .int l3, .int l4] [.int l1, .int l4] rfl ?_
      refine rn_br (c := l4 = l1) rfl rfl decide_eq_true_iff (fun hb => ?_) (fun hb => ?_)
      · rw [if_pos hb] at h
        refine rn_steps 0 155 [.ref l0, .int l1, .int l2, .int l3, .int l4] [] rfl ?_
        exact e236_155 d _ ih _ _ _ _ _ _ _ h
      · rw [if_neg hb] at h
        refine rn_steps 2 95 [.ref l0, .int l1, .int l2, .int l3, .int l4] [.int l2, .int l4] rfl ?_
        refine rn_br (c := l4 = l2) rfl rfl decide_eq_true_iff (fun hb => ?_) (fun hb => ?_)
        · rw [if_pos hb] at h
          refine rn_steps 0 155 [.ref l0, .int l1, .int l2, .int l3, .int l4] [] rfl ?_
          exact e236_155 d _ ih _ _ _ _ _ _ _ h
        · rw [if_neg hb] at h
          refine rn_steps 2 101 [.ref l0, .int l1, .int l2, .int l3, .int l4] [.int l4, .ref l0] rfl ?_
          obtain ⟨u12, hu12, h⟩ := Option.bind_eq_some_iff.mp h
          obtain ⟨y3, hy3, h⟩ := Option.bind_eq_some_iff.mp h
          refine rn_callV [.int l4] rfl rfl ⟨rfl, rfl⟩ hu12 rfl rfl (e190 d hy3) ?_
          refine rn_steps 0 104 [.ref l0, .int l1, .int l2, .int l3, .int l4] [.int y3.1] rfl ?_
          refine rn_br (c := ¬ y3.1 = 0) rfl rfl decide_eq_true_iff (fun hb => ?_) (fun hb => ?_)
          · rw [if_neg hb] at h
            refine rn_steps 3 114 [.ref l0, .int l1, .int l2, .int l3, .int l4] [.int l2, .int l4, .ref l0] rfl ?_
            obtain ⟨u11, hu11, h⟩ := Option.bind_eq_some_iff.mp h
            obtain ⟨y4, hy4, h⟩ := Option.bind_eq_some_iff.mp h
            refine rn_callV [.int l4, .int l2] rfl rfl ⟨rfl, rfl⟩ hu11 rfl rfl (e191 (d + 1) hy4) ?_
            refine rn_steps 3 120 [.ref l0, .int l1, .int l2, .int l3, .int l4] [.int l2, .int l1, .ref l0, .int y4.1] rfl ?_
            obtain ⟨u10, hu10, h⟩ := Option.bind_eq_some_iff.mp h
            obtain ⟨y5, hy5, h⟩ := Option.bind_eq_some_iff.mp h
            refine rn_callV [.int l1, .int l2] rfl rfl ⟨rfl, rfl⟩ hu10 rfl rfl (e191 (d + 1) hy5) ?_
            refine rn_steps 0 123 [.ref l0, .int l1, .int l2, .int l3, .int l4] [.int y5.1, .int y4.1] rfl ?_
            refine rn_br (c := y5.1 < y4.1) rfl rfl decide_eq_true_iff (fun hb => ?_) (fun hb => ?_)
            · rw [if_pos hb] at h
              refine rn_steps 0 148 [.ref l0, .int l1, .int l2, .int l3, .int l4] [] rfl ?_
              exact e236_148 d _ ih _ _ _ _ _ _ _ h
            · rw [if_neg hb] at h
              refine rn_steps 3 130 [.ref l0, .int l1, .int l2, .int l3, .int l4] [.int l2, .int l4, .ref l0] rfl ?_
              obtain ⟨u9, hu9, h⟩ := Option.bind_eq_some_iff.mp h
              obtain ⟨y6, hy6, h⟩ := Option.bind_eq_some_iff.mp h
              refine rn_callV [.int l4, .int l2] rfl rfl ⟨rfl, rfl⟩ hu9 rfl rfl (e191 (d + 1) hy6) ?_
              refine rn_steps 3 136 [.ref l0, .int l1, .int l2, .int l3, .int l4] [.int l2, .int l1, .ref l0, .int y6.1] rfl ?_
              obtain ⟨u8, hu8, h⟩ := Option.bind_eq_some_iff.mp h
              obtain ⟨y7, hy7, h⟩ := Option.bind_eq_some_iff.mp h
              refine rn_callV [.int l1, .int l2] rfl rfl ⟨rfl, rfl⟩ hu8 rfl rfl (e191 (d + 1) hy7) ?_
              refine rn_steps 0 139 [.ref l0, .int l1, .int l2, .int l3, .int l4] [.int y7.1, .int y6.1] rfl ?_
              refine rn_br (c := ¬ y6.1 = y7.1) rfl rfl decide_eq_true_iff (fun hb => ?_) (fun hb => ?_)
              · rw [if_neg hb] at h
                refine rn_steps 0 155 [.ref l0, .int l1, .int l2, .int l3, .int l4] [] rfl ?_
                exact e236_155 d _ ih _ _ _ _ _ _ _ h
              · rw [if_pos (Decidable.not_not.mp hb)] at h
                refine rn_steps 2 145 [.ref l0, .int l1, .int l2, .int l3, .int l4] [.int l1, .int l4] rfl ?_
                refine rn_br (c := l1 ≤ l4) rfl rfl decide_eq_true_iff (fun hb => ?_) (fun hb => ?_)
                · rw [if_pos hb] at h
                  refine rn_steps 0 155 [.ref l0, .int l1, .int l2, .int l3, .int l4] [] rfl ?_
                  exact e236_155 d _ ih _ _ _ _ _ _ _ h
                · rw [if_neg hb] at h
                  refine rn_steps 0 148 [.ref l0, .int l1, .int l2, .int l3, .int l4] [] rfl ?_
                  exact e236_148 d _ ih _ _ _ _ _ _ _ h
          · rw [if_pos (Decidable.not_not.mp hb)] at h
            refine rn_steps 1 155 [.ref l0, .int l1, .int l2, .int l3, .int l4] [] rfl ?_
            exact e236_155 d _ ih _ _ _ _ _ _ _ h
noncomputable def f236_62 (l0 : Nat) (σ : xM) : Option (Int32 × xM) :=
  (cO σ l0 9).bind fun u2 =>
  (f154 l0 (-2) σ).bind fun y1 =>
  some (y1.1, y1.2)
set_option maxRecDepth 20000 in
set_option maxHeartbeats 1000000 in
theorem e236_62 (d : Nat) (l0 : Nat) (x1 x2 x3 x4 : Value) (σ : xM) (y : Int32 × xM) (h : f236_62 l0 σ = some y) : Rn (d + 2) 236 62 [.ref l0, x1, x2, x3, x4] [] σ (some (.int y.1), y.2) := by
  unfold f236_62 at h
  refine rn_steps 2 65 [.ref l0, x1, x2, x3, x4] [.int (-2), .ref l0] rfl ?_
  obtain ⟨u2, hu2, h⟩ := Option.bind_eq_some_iff.mp h
  obtain ⟨y1, hy1, h⟩ := Option.bind_eq_some_iff.mp h
  refine rn_callV [.int (-2)] rfl rfl ⟨rfl, rfl⟩ hu2 rfl rfl (e154 (d + 1) hy1) ?_
  refine rn_steps 0 68 [.ref l0, x1, x2, x3, x4] [.int y1.1] rfl ?_
  cases h
  exact rn_ret rfl rfl rfl
/-- LastAskedModel.rivals(II)I -/
noncomputable def f236 (l0 : Nat) (l1 : Int32) (l2 : Int32) (σ : xM) : Option (Int32 × xM) :=
  (pI σ l0 9 0 0).bind fun σ1 =>
  (cO σ1 l0 9).bind fun u16 =>
  (f187 l0 l1 l2 σ1).bind fun y2 =>
  if y2.1 = 0 then
  (cO y2.2 l0 9).bind fun u15 =>
  (f151 l0 1 y2.2).bind fun y14 =>
  some (y14.1, y14.2)
  else
  (gR y2.2 l0 9 16).bind fun r3 =>
  (aI y2.2 r3 42).bind fun v4 =>
  (f157 v4 l2 y2.2).bind fun y5 =>
  if y5.1 = 0 then
  (cO y5.2 l0 9).bind fun u13 =>
  (f151 l0 5 y5.2).bind fun y12 =>
  some (y12.1, y12.2)
  else
  (cO y5.2 l0 9).bind fun u11 =>
  (f188 l0 y5.2).bind fun y6 =>
  (cO y6 l0 9).bind fun u10 =>
  (f190 l0 l1 y6).bind fun y7 =>
  if y7.1 = 0 then
  f236_62 l0 y7.2
  else
  (cO y7.2 l0 9).bind fun u9 =>
  (f191 l0 l1 l2 y7.2).bind fun y8 =>
  if y8.1 = (-1) then
  f236_62 l0 y8.2
  else
  f236_74 1100 l0 l1 l2 0 0 y8.2
set_option maxRecDepth 20000 in
set_option maxHeartbeats 1000000 in
theorem e236 (d : Nat) {l0 : Nat} {l1 : Int32} {l2 : Int32} {σ : xM} {y : Int32 × xM} (h : f236 l0 l1 l2 σ = some y) : Rn (d + 2) 236 0 [.ref l0, .int l1, .int l2, .retAddr 0, .retAddr 0] [] σ (some (.int y.1), y.2) := by
  unfold f236 at h
  refine rn_steps 2 2 [.ref l0, .int l1, .int l2, .retAddr 0, .retAddr 0] [.int 0, .ref l0] rfl ?_
  obtain ⟨σ1, hσ1, h⟩ := Option.bind_eq_some_iff.mp h
  refine rn_pI (c := 9) (f := 0) rfl rfl ⟨⟨rfl, rfl⟩, rfl⟩ hσ1 ?_
  refine rn_steps 3 8 [.ref l0, .int l1, .int l2, .retAddr 0, .retAddr 0] [.int l2, .int l1, .ref l0] rfl ?_
  obtain ⟨u16, hu16, h⟩ := Option.bind_eq_some_iff.mp h
  obtain ⟨y2, hy2, h⟩ := Option.bind_eq_some_iff.mp h
  refine rn_callV [.int l1, .int l2] rfl rfl ⟨rfl, rfl⟩ hu16 rfl rfl (e187 d hy2) ?_
  refine rn_steps 0 11 [.ref l0, .int l1, .int l2, .retAddr 0, .retAddr 0] [.int y2.1] rfl ?_
  refine rn_br (c := ¬ y2.1 = 0) rfl rfl decide_eq_true_iff (fun hb => ?_) (fun hb => ?_)
  · rw [if_neg hb] at h
    refine rn_steps 1 21 [.ref l0, .int l1, .int l2, .retAddr 0, .retAddr 0] [.ref l0] rfl ?_
    obtain ⟨r3, hr3, h⟩ := Option.bind_eq_some_iff.mp h
    refine rn_gR (c := 9) (f := 16) rfl rfl ⟨⟨rfl, rfl⟩, rfl⟩ hr3 ?_
    refine rn_steps 1 26 [.ref l0, .int l1, .int l2, .retAddr 0, .retAddr 0] [.int 42, .ref r3] rfl ?_
    obtain ⟨v4, hv4, h⟩ := Option.bind_eq_some_iff.mp h
    refine rn_aI rfl hv4 ?_
    refine rn_steps 1 28 [.ref l0, .int l1, .int l2, .retAddr 0, .retAddr 0] [.int l2, .int v4] rfl ?_
    obtain ⟨y5, hy5, h⟩ := Option.bind_eq_some_iff.mp h
    refine rn_callS [.int v4, .int l2] rfl rfl rfl ⟨rfl, rfl, rfl⟩ rfl rfl (e157 (d + 1) hy5) ?_
    refine rn_steps 0 31 [.ref l0, .int l1, .int l2, .retAddr 0, .retAddr 0] [.int y5.1] rfl ?_
    refine rn_br (c := ¬ y5.1 = 0) rfl rfl decide_eq_true_iff (fun hb => ?_) (fun hb => ?_)
    · rw [if_neg hb] at h
      refine rn_steps 1 41 [.ref l0, .int l1, .int l2, .retAddr 0, .retAddr 0] [.ref l0] rfl ?_
      obtain ⟨u11, hu11, h⟩ := Option.bind_eq_some_iff.mp h
      obtain ⟨y6, hy6, h⟩ := Option.bind_eq_some_iff.mp h
      refine rn_callV [] rfl rfl ⟨rfl, rfl⟩ hu11 rfl rfl (e188 (d + 1) hy6) ?_
      refine rn_steps 2 46 [.ref l0, .int l1, .int l2, .retAddr 0, .retAddr 0] [.int l1, .ref l0] rfl ?_
      obtain ⟨u10, hu10, h⟩ := Option.bind_eq_some_iff.mp h
      obtain ⟨y7, hy7, h⟩ := Option.bind_eq_some_iff.mp h
      refine rn_callV [.int l1] rfl rfl ⟨rfl, rfl⟩ hu10 rfl rfl (e190 d hy7) ?_
      refine rn_steps 0 49 [.ref l0, .int l1, .int l2, .retAddr 0, .retAddr 0] [.int y7.1] rfl ?_
      refine rn_br (c := y7.1 = 0) rfl rfl decide_eq_true_iff (fun hb => ?_) (fun hb => ?_)
      · rw [if_pos hb] at h
        refine rn_steps 0 62 [.ref l0, .int l1, .int l2, .retAddr 0, .retAddr 0] [] rfl ?_
        exact e236_62 d _ _ _ _ _ _ _ h
      · rw [if_neg hb] at h
        refine rn_steps 3 55 [.ref l0, .int l1, .int l2, .retAddr 0, .retAddr 0] [.int l2, .int l1, .ref l0] rfl ?_
        obtain ⟨u9, hu9, h⟩ := Option.bind_eq_some_iff.mp h
        obtain ⟨y8, hy8, h⟩ := Option.bind_eq_some_iff.mp h
        refine rn_callV [.int l1, .int l2] rfl rfl ⟨rfl, rfl⟩ hu9 rfl rfl (e191 (d + 1) hy8) ?_
        refine rn_steps 1 59 [.ref l0, .int l1, .int l2, .retAddr 0, .retAddr 0] [.int (-1), .int y8.1] rfl ?_
        refine rn_br (c := ¬ y8.1 = (-1)) rfl rfl decide_eq_true_iff (fun hb => ?_) (fun hb => ?_)
        · rw [if_neg hb] at h
          refine rn_steps 4 74 [.ref l0, .int l1, .int l2, .int 0, .int 0] [] rfl ?_
          exact e236_74 d 1100 _ _ _ _ _ _ _ h
        · rw [if_pos (Decidable.not_not.mp hb)] at h
          refine rn_steps 0 62 [.ref l0, .int l1, .int l2, .retAddr 0, .retAddr 0] [] rfl ?_
          exact e236_62 d _ _ _ _ _ _ _ h
    · rw [if_pos (Decidable.not_not.mp hb)] at h
      refine rn_steps 2 36 [.ref l0, .int l1, .int l2, .retAddr 0, .retAddr 0] [.int 5, .ref l0] rfl ?_
      obtain ⟨u13, hu13, h⟩ := Option.bind_eq_some_iff.mp h
      obtain ⟨y12, hy12, h⟩ := Option.bind_eq_some_iff.mp h
      refine rn_callV [.int 5] rfl rfl ⟨rfl, rfl⟩ hu13 rfl rfl (e151 (d + 1) hy12) ?_
      refine rn_steps 0 39 [.ref l0, .int l1, .int l2, .retAddr 0, .retAddr 0] [.int y12.1] rfl ?_
      cases h
      exact rn_ret rfl rfl rfl
  · rw [if_pos (Decidable.not_not.mp hb)] at h
    refine rn_steps 2 16 [.ref l0, .int l1, .int l2, .retAddr 0, .retAddr 0] [.int 1, .ref l0] rfl ?_
    obtain ⟨u15, hu15, h⟩ := Option.bind_eq_some_iff.mp h
    obtain ⟨y14, hy14, h⟩ := Option.bind_eq_some_iff.mp h
    refine rn_callV [.int 1] rfl rfl ⟨rfl, rfl⟩ hu15 rfl rfl (e151 (d + 1) hy14) ?_
    refine rn_steps 0 19 [.ref l0, .int l1, .int l2, .retAddr 0, .retAddr 0] [.int y14.1] rfl ?_
    cases h
    exact rn_ret rfl rfl rfl
