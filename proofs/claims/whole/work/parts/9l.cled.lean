/-! led of the class: up to its return (45) or its throw (55) -/
section LED
variable {σ : xM} {C : Cty} {s : Sta} {n : Nat}
theorem rp_gR {t d k pc : Nat} {ls st : List Value} {σ : xM} {y : List Value × List Value × xM} {a c f p0 ix len rn x : Nat} {ri : Int32} {rl : Int64} (ht : Nat.beq pc t = false) (hc : xcodL k pc = some (p0, .getfield ix, len, rn, ri, rl)) (h2 : (rn / 100 = c ∧ rn % 100 = f) ∧ xT c f = 2) (hv : gR σ a c f = some x) (h : Rp t d k (pc + 3) ls (.ref x :: st) σ y) : Rp t d k pc ls (.ref a :: st) σ y := by
  obtain ⟨hb, hx⟩ := cb hv
  refine rp_step ht hc ?_ h
  obtain ⟨⟨e1, e2⟩, e3⟩ := h2
  have hx : mR σ a f = some x := hx
  simp only [xstep, e1, e2, hb, cond_true]
  rw [e3, hx]
  rfl
set_option maxRecDepth 20000 in
theorem led_it {t d : Nat} (ht : t = 45 ∨ t = 55) {y : List Value × List Value × xM} (hS : Sh σ) (hc : cS σ 26 n s) (hk : Ok n s) (hH : cH σ s) {i l2 : Int32} {p : Nat} (hp : p < 6)
    (h1 : ledC s p = false → Rp t (d + 4) 111 9 [.ref 0, .int i, .int l2, .int (nI p + 1)] [] σ y)
    (h2 : ledC s p = true → ¬ l2 = 0 → Rp t (d + 4) 111 9 [.ref 0, .int i, .int (l2 + (-1)), .int (nI p + 1)] [] σ y)
    (h3 : ledC s p = true → l2 = 0 → Rp t (d + 4) 111 44 [.ref 0, .int i, .int l2, .int (nI p)] [] σ y) : Rp t (d + 4) 111 9 [.ref 0, .int i, .int l2, .int (nI p)] [] σ y := by
  have g2 : gR σ 0 7 2 = some 26 := by simp only [acC hS]
  have g5 : gR σ 0 7 5 = some 92 := by simp only [acC hS]
  have g0 : gR σ 92 6 0 = some 93 := gR_ok (sh_n hS (by decide)) (sh_k hS (by decide)) (hS.2.2 (92, 0, 93) (by decide))
  have a9 : aI σ 93 (nI p) = some (ob (hN s p)) := by
    rw [← hH p hp]
    exact aI_nI (sh_a hS (by decide) rfl rfl) hp (by decide)
  have o2 : cO σ 26 4 = some () := cO_yes (sh_n hS (by decide)) (sh_k hS (by decide))
  have e48h := e48 (d + 2) (f48_26 hS hc hk hp)
  have hob : (ob (hN s p) = -2) ↔ (hN s p = none) := by rw [ob_m2 (fun k h => hN_6 s p k h)]
  unfold ledC at h1 h2 h3
  rcases ht with rfl | rfl
  all_goals
    refine rp_steps 2 12 [.ref 0, .int i, .int l2, .int (nI p)] [.int 6, .int (nI p)] rfl ?_
    refine rp_br (c := (6 : Int32) ≤ nI p) rfl rfl rfl decide_eq_true_iff (fun hb => absurd hb (nI_ge (b := 6) hp (by omega))) (fun _ => ?_)
    refine rp_steps 1 16 [.ref 0, .int i, .int l2, .int (nI p)] [.ref 0] rfl ?_
    refine rp_gR (c := 7) (f := 2) rfl rfl ⟨⟨rfl, rfl⟩, rfl⟩ g2 ?_
    refine rp_steps 1 20 [.ref 0, .int i, .int l2, .int (nI p)] [.int (nI p), .ref 26] rfl ?_
    refine rp_callV [.int (nI p)] rfl rfl rfl ⟨rfl, rfl⟩ o2 rfl rfl e48h ?_
    refine rp_steps 0 23 [.ref 0, .int i, .int l2, .int (nI p)] [.int (bo (tb (lv s) p))] rfl ?_
    refine rp_br (c := bo (tb (lv s) p) = 0) rfl rfl rfl decide_eq_true_iff (fun hb => ?_) (fun hb => ?_)
    · refine rp_steps 2 9 [.ref 0, .int i, .int l2, .int (nI p + 1)] [] rfl ?_
      refine h1 ?_
      rw [bo_0] at hb
      rw [hb]
      rfl
    · have htb : tb (lv s) p = true := by
        cases e : tb (lv s) p
        · exact absurd (by rw [e]; rfl) hb
        · rfl
      rw [htb] at h1 h2 h3
      refine rp_steps 1 27 [.ref 0, .int i, .int l2, .int (nI p)] [.ref 0] rfl ?_
      refine rp_gR (c := 7) (f := 5) rfl rfl ⟨⟨rfl, rfl⟩, rfl⟩ g5 ?_
      refine rp_gR (c := 6) (f := 0) rfl rfl ⟨⟨rfl, rfl⟩, rfl⟩ g0 ?_
      refine rp_steps 1 34 [.ref 0, .int i, .int l2, .int (nI p)] [.int (nI p), .ref 93] rfl ?_
      refine rp_aI rfl rfl a9 ?_
      refine rp_steps 1 37 [.ref 0, .int i, .int l2, .int (nI p)] [.int (-2), .int (ob (hN s p))] rfl ?_
      refine rp_br (c := ¬ ob (hN s p) = -2) rfl rfl rfl decide_eq_true_iff (fun hb => ?_) (fun hb => ?_)
      · refine rp_steps 2 9 [.ref 0, .int i, .int l2, .int (nI p + 1)] [] rfl ?_
        refine h1 ?_
        rw [decide_eq_false (fun h => hb (hob.mpr h))]
        rfl
      · have hn : hN s p = none := hob.mp (Decidable.not_not.mp hb)
        rw [hn] at h1 h2 h3
        refine rp_steps 1 41 [.ref 0, .int i, .int l2, .int (nI p)] [.int l2] rfl ?_
        refine rp_br (c := ¬ l2 = 0) rfl rfl rfl decide_eq_true_iff (fun hb => ?_) (fun hb => ?_)
        · refine rp_steps 3 9 [.ref 0, .int i, .int (l2 + (-1)), .int (nI p + 1)] [] rfl ?_
          exact h2 (by simp) hb
        · exact h3 (by simp) (Decidable.not_not.mp hb)
theorem i32_0 {a x : Int32} (h : a + x = x) : a = 0 := by
  have h1 : a + x - x = x - x := by rw [h]
  rwa [Int32.add_sub_cancel, Int32.sub_self] at h1
theorem i32_s {a x : Int32} : (a + (-1)) + (x + 1) = a + x := by
  rw [Int32.add_assoc, Int32.add_comm x 1, ← Int32.add_assoc (-1) 1 x, show (-1 : Int32) + 1 = 0 from rfl, Int32.zero_add]
def ledR (σ : xM) (d : Nat) (i : Int32) (pc : Nat) (ls : List Value) (τ : xM) (o : Option Nat) : Prop := match o with
  | some q => ∃ l, Rp 45 (d + 4) 111 pc ls [] σ ([.ref 0, .int i, .int l, .int (nI q)], [.int (nI q)], τ)
  | none => ∃ l, Rp 55 (d + 4) 111 pc ls [] σ ([.ref 0, .int i, .int l, .int (nI 6)], [], τ)
theorem led_lp {d : Nat} (hS : Sh σ) (hc : cS σ 26 n s) (hk : Ok n s) (hH : cH σ s) {i : Int32} : ∀ (m p : Nat) (l2 : Int32), p + m = 6 → l2 + nI (cnF (ledC s) p) = i → ledR σ d i 9 [.ref 0, .int i, .int l2, .int (nI p)] σ (fs (fun p => ledC s p && decide (nI (cnF (ledC s) p) = i)) p m) := by
  intro m
  induction m with
  | zero =>
    intro p l2 hp _
    obtain rfl : p = 6 := by omega
    refine ⟨l2, ?_⟩
    refine rp_steps 2 12 [.ref 0, .int i, .int l2, .int (nI 6)] [.int 6, .int (nI 6)] rfl ?_
    refine rp_br (c := (6 : Int32) ≤ nI 6) rfl rfl rfl (show (decide ((6 : Int32) ≤ nI 6) = true) ↔ _ from decide_eq_true_iff) (fun _ => rp_end) (fun hb => absurd (show (6 : Int32) ≤ nI 6 by decide) hb)
  | succ m ih =>
    intro p l2 hp hl
    have hp6 : p < 6 := by omega
    rw [fs]
    cases e : ledC s p
    · have hcn : cnF (ledC s) (p + 1) = cnF (ledC s) p := by rw [cnF, e]; rfl
      rw [if_neg (by simp)]
      have := ih (p + 1) l2 (by omega) (by rw [hcn]; exact hl)
      cases ef : fs (fun p => ledC s p && decide (nI (cnF (ledC s) p) = i)) (p + 1) m with
      | some q =>
        rw [ef] at this
        obtain ⟨l, hr⟩ := this
        exact ⟨l, led_it (Or.inl rfl) hS hc hk hH hp6 (fun _ => by rw [nI_1]; exact hr) (fun h => absurd h (by rw [e]; simp)) (fun h => absurd h (by rw [e]; simp))⟩
      | none =>
        rw [ef] at this
        obtain ⟨l, hr⟩ := this
        exact ⟨l, led_it (Or.inr rfl) hS hc hk hH hp6 (fun _ => by rw [nI_1]; exact hr) (fun h => absurd h (by rw [e]; simp)) (fun h => absurd h (by rw [e]; simp))⟩
    · have hcn : cnF (ledC s) (p + 1) = cnF (ledC s) p + 1 := by rw [cnF, e]; rfl
      by_cases e0 : l2 = 0
      · have hi : nI (cnF (ledC s) p) = i := by rw [← hl, e0, Int32.zero_add]
        rw [if_pos (by rw [hi]; simp)]
        exact ⟨l2, led_it (Or.inl rfl) hS hc hk hH hp6 (fun h => absurd h (by rw [e]; simp)) (fun _ h => absurd e0 h) (fun _ _ => rp_steps 1 45 [.ref 0, .int i, .int l2, .int (nI p)] [.int (nI p)] rfl rp_end)⟩
      · have hi : ¬ nI (cnF (ledC s) p) = i := fun h => e0 (i32_0 (x := i) (by rw [h] at hl; exact hl))
        rw [if_neg (by rw [decide_eq_false hi]; simp)]
        have := ih (p + 1) (l2 + (-1)) (by omega) (by rw [hcn, ← nI_1, i32_s]; exact hl)
        cases ef : fs (fun p => ledC s p && decide (nI (cnF (ledC s) p) = i)) (p + 1) m with
        | some q =>
          rw [ef] at this
          obtain ⟨l, hr⟩ := this
          exact ⟨l, led_it (Or.inl rfl) hS hc hk hH hp6 (fun h => absurd h (by rw [e]; simp)) (fun _ _ => by rw [nI_1]; exact hr) (fun _ h => absurd h e0)⟩
        | none =>
          rw [ef] at this
          obtain ⟨l, hr⟩ := this
          exact ⟨l, led_it (Or.inr rfl) hS hc hk hH hp6 (fun h => absurd h (by rw [e]; simp)) (fun _ _ => by rw [nI_1]; exact hr) (fun _ h => absurd h e0)⟩
theorem led_run {d : Nat} (hS : Sh σ) (hc : cS σ 26 n s) (hk : Ok n s) (i : Int32) : ledR σ d i 0 (xent [.ref 0, .int i] 4) (wl σ s) (ledX s i) := by
  have hH := wl_cH σ s
  have hS1 := wl_sh (s := s) hS
  have hc1 : cS (wl σ s) 26 n s := wl_cS (Or.inl rfl) hc
  have h := led_lp (d := d) hS1 hc1 hk hH (i := i) 6 0 i rfl (show i + 0 = i from Int32.add_zero i)
  have e129h := e129 d (f129N hS hc hk)
  have o0 : cO σ 0 7 = some () := cO_yes (sh_n hS (by decide)) (sh_k hS (by decide))
  have pre : ∀ t, (t = 45 ∨ t = 55) → ∀ y, Rp t (d + 4) 111 9 [.ref 0, .int i, .int i, .int (nI 0)] [] (wl σ s) y → Rp t (d + 4) 111 0 (xent [.ref 0, .int i] 4) [] σ y := fun t ht y hr => by
    rcases ht with rfl | rfl
    all_goals
      refine rp_steps 1 1 (xent [.ref 0, .int i] 4) [.ref 0] rfl ?_
      refine rp_callV [] rfl rfl rfl ⟨rfl, rfl⟩ o0 rfl rfl e129h ?_
      exact rp_steps 5 9 [.ref 0, .int i, .int i, .int (nI 0)] [] rfl hr
  unfold ledX
  cases ef : fs (fun p => ledC s p && decide (nI (cnF (ledC s) p) = i)) 0 6 with
  | some q =>
    rw [ef] at h
    obtain ⟨l, hr⟩ := h
    exact ⟨l, pre 45 (Or.inl rfl) _ hr⟩
  | none =>
    rw [ef] at h
    obtain ⟨l, hr⟩ := h
    exact ⟨l, pre 55 (Or.inr rfl) _ hr⟩
end LED
