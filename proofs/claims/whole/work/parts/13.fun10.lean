/-- LastAskedModel.bestMean(IIZ)J -/
noncomputable def f228 (l0 : Nat) (l1 : Int32) (l2 : Int32) (l3 : Int32) (σ : xM) : Option (Int64 × xM) :=
  (pI σ l0 9 0 0).bind fun σ1 =>
  (cO σ1 l0 9).bind fun u15 =>
  (f226 l0 l1 l2 1 3 σ1).bind fun y2 =>
  if y2.1 ≤ 0 then
  (cO y2.2 l0 9).bind fun u12 =>
  (f225 l0 l1 l2 y2.2).bind fun y3 =>
  (cO y3.2 l0 9).bind fun u11 =>
  (f188 l0 y3.2).bind fun y4 =>
  (cO y4 l0 9).bind fun u10 =>
  (f218 l0 y4).bind fun y5 =>
  (gJ y5 l0 9 26).bind fun v6 =>
  (gJ y5 l0 9 25).bind fun v7 =>
  (cO y5 l0 9).bind fun u9 =>
  (f160 l0 v6 v7 l3 y5).bind fun y8 =>
  some (y8.1, y8.2)
  else
  (cO y2.2 l0 9).bind fun u14 =>
  (f151 l0 y2.1 y2.2).bind fun y13 =>
  some (y13.1.toInt64, y13.2)
set_option maxRecDepth 20000 in
set_option maxHeartbeats 1000000 in
theorem e228 (d : Nat) {l0 : Nat} {l1 : Int32} {l2 : Int32} {l3 : Int32} {σ : xM} {y : Int64 × xM} (h : f228 l0 l1 l2 l3 σ = some y) : Rn (d + 6) 228 0 [.ref l0, .int l1, .int l2, .int l3, .retAddr 0] [] σ (some (.long y.1), y.2) := by
  unfold f228 at h
  refine rn_steps 2 2 [.ref l0, .int l1, .int l2, .int l3, .retAddr 0] [.int 0, .ref l0] rfl ?_
  obtain ⟨σ1, hσ1, h⟩ := Option.bind_eq_some_iff.mp h
  refine rn_pI (c := 9) (f := 0) rfl rfl ⟨⟨rfl, rfl⟩, rfl⟩ hσ1 ?_
  refine rn_steps 5 10 [.ref l0, .int l1, .int l2, .int l3, .retAddr 0] [.int 3, .int 1, .int l2, .int l1, .ref l0] rfl ?_
  obtain ⟨u15, hu15, h⟩ := Option.bind_eq_some_iff.mp h
  obtain ⟨y2, hy2, h⟩ := Option.bind_eq_some_iff.mp h
  refine rn_callV [.int l1, .int l2, .int 1, .int 3] rfl rfl ⟨rfl, rfl⟩ hu15 rfl rfl (e226 (d + 4) hy2) ?_
  refine rn_steps 2 17 [.ref l0, .int l1, .int l2, .int l3, .int y2.1] [.int y2.1] rfl ?_
  refine rn_br (c := y2.1 ≤ 0) rfl rfl decide_eq_true_iff (fun hb => ?_) (fun hb => ?_)
  · rw [if_pos hb] at h
    refine rn_steps 3 31 [.ref l0, .int l1, .int l2, .int l3, .int y2.1] [.int l2, .int l1, .ref l0] rfl ?_
    obtain ⟨u12, hu12, h⟩ := Option.bind_eq_some_iff.mp h
    obtain ⟨y3, hy3, h⟩ := Option.bind_eq_some_iff.mp h
    refine rn_callV [.int l1, .int l2] rfl rfl ⟨rfl, rfl⟩ hu12 rfl rfl (e225 d hy3) ?_
    refine rn_steps 2 36 [.ref l0, .int l1, .int l2, .int l3, .int y2.1] [.ref l0] rfl ?_
    obtain ⟨u11, hu11, h⟩ := Option.bind_eq_some_iff.mp h
    obtain ⟨y4, hy4, h⟩ := Option.bind_eq_some_iff.mp h
    refine rn_callV [] rfl rfl ⟨rfl, rfl⟩ hu11 rfl rfl (e188 (d + 5) hy4) ?_
    refine rn_steps 1 40 [.ref l0, .int l1, .int l2, .int l3, .int y2.1] [.ref l0] rfl ?_
    obtain ⟨u10, hu10, h⟩ := Option.bind_eq_some_iff.mp h
    obtain ⟨y5, hy5, h⟩ := Option.bind_eq_some_iff.mp h
    refine rn_callV [] rfl rfl ⟨rfl, rfl⟩ hu10 rfl rfl (e218 (d + 3) hy5) ?_
    refine rn_steps 2 45 [.ref l0, .int l1, .int l2, .int l3, .int y2.1] [.ref l0, .ref l0] rfl ?_
    obtain ⟨v6, hv6, h⟩ := Option.bind_eq_some_iff.mp h
    refine rn_gJ (c := 9) (f := 26) rfl rfl ⟨⟨rfl, rfl⟩, rfl⟩ hv6 ?_
    refine rn_steps 1 49 [.ref l0, .int l1, .int l2, .int l3, .int y2.1] [.ref l0, .long v6, .ref l0] rfl ?_
    obtain ⟨v7, hv7, h⟩ := Option.bind_eq_some_iff.mp h
    refine rn_gJ (c := 9) (f := 25) rfl rfl ⟨⟨rfl, rfl⟩, rfl⟩ hv7 ?_
    refine rn_steps 1 53 [.ref l0, .int l1, .int l2, .int l3, .int y2.1] [.int l3, .long v7, .long v6, .ref l0] rfl ?_
    obtain ⟨u9, hu9, h⟩ := Option.bind_eq_some_iff.mp h
    obtain ⟨y8, hy8, h⟩ := Option.bind_eq_some_iff.mp h
    refine rn_callV [.long v6, .long v7, .int l3] rfl rfl ⟨rfl, rfl⟩ hu9 rfl rfl (e160 (d + 4) hy8) ?_
    refine rn_steps 0 56 [.ref l0, .int l1, .int l2, .int l3, .int y2.1] [.long y8.1] rfl ?_
    cases h
    exact rn_ret rfl rfl rfl
  · rw [if_neg hb] at h
    refine rn_steps 2 23 [.ref l0, .int l1, .int l2, .int l3, .int y2.1] [.int y2.1, .ref l0] rfl ?_
    obtain ⟨u14, hu14, h⟩ := Option.bind_eq_some_iff.mp h
    obtain ⟨y13, hy13, h⟩ := Option.bind_eq_some_iff.mp h
    refine rn_callV [.int y2.1] rfl rfl ⟨rfl, rfl⟩ hu14 rfl rfl (e151 (d + 5) hy13) ?_
    refine rn_steps 1 27 [.ref l0, .int l1, .int l2, .int l3, .int y2.1] [.long y13.1.toInt64] rfl ?_
    cases h
    exact rn_ret rfl rfl rfl
