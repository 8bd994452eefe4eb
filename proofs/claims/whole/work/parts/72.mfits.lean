/-! HOURS THAT AREN'T SURE: the reference, one code -/
/-- no two of the heard are of one pair -/
def OkH (C : Cty) : Prop := ∀ i j, i < nHe C → j < nHe C → hb C i = hb C j → ho C i = ho C j → i = j
theorem lst_some {C : Cty} {p q : Nat} : ∀ n k, lst C p q n = some k → k < n ∧ hb C k = p ∧ ho C k = q := by
  intro n
  induction n with
  | zero => intro k h; cases h
  | succ n ih =>
    intro k h
    rw [lst] at h
    split at h
    · rename_i e
      cases h
      exact ⟨by omega, e⟩
    · obtain ⟨a, b⟩ := ih k h
      exact ⟨by omega, b⟩
theorem lst_none {C : Cty} {p q : Nat} : ∀ n, lst C p q n = none → ∀ k, k < n → ¬ (hb C k = p ∧ ho C k = q) := by
  intro n
  induction n with
  | zero => intro h k hk; omega
  | succ n ih =>
    intro h k hk
    rw [lst] at h
    split at h
    · cases h
    · rename_i e
      by_cases ek : k = n
      · rw [ek]
        exact e
      · exact ih h k (by omega)
section REF
variable {σ : xM} {c n : Nat} {s : Sta} {C : Cty}
/-- heirOf, by any register and any who live -/
theorem f192G {g : Nat → Nat → Option Nat} {l : Nat} (hT : hasT σ c) (hp : mI σ c 2 = nI n) (h6 : n ≤ 6) (hx : ∀ p, p < 6 → ∀ q, q < 6 → mI σ 105 (6 + 6 * p + q) = rM (g p q)) (hl : mI σ 105 42 = nI l) (hln : l < 2 ^ n) (hgb : ∀ p q h, g p q = some h → h < 2 ^ 31) {q : Nat} (hq : q < 6) : f192 102 (nI q) σ = some (ob (heN (fun p => g p q) (fun p => decide (¬ p = q) && tb l p) 6), σ) := by
  have hl64 : l < 64 := Nat.lt_of_lt_of_le hln (Nat.pow_le_pow_right (by omega) h6)
  have f190G : ∀ p, p < 6 → f190 102 (nI p) σ = some (bo (tb l p), σ) := fun p hp => by
    unfold f190
    simp only [acM hT.1, Option.bind_some, litM, show 42 < 47 by omega, hl, f157N hl64 hp, bo_Z]
  have f191G : ∀ p q, p < 6 → q < 6 → f191 102 (nI p) (nI q) σ = some (rM (g p q), σ) := fun p q hp hq => by
    unfold f191
    simp only [acM hT.1, Option.bind_some, show (6 : Int32) = nI 6 from rfl, pk_mul, nI_add, show 6 + 6 * p + q < 47 by omega, hx p hp q hq]
  have e0 : heN (fun p => g p q) (fun p => decide (¬ p = q) && tb l p) 6 = heN (fun p => g p q) (fun p => decide (¬ p = q) && tb l p) n := heN_more h6 (fun i h1 h2 => by
    rw [tb_lt hln h1]
    simp)
  rw [e0]
  have hlt : ∀ j k, heN (fun p => g p q) (fun p => decide (¬ p = q) && tb l p) j = some k → k < j ∧ ∃ h, g k q = some h := fun j k e => by
    have := (heN_congr (j := j) (fun i _ => ⟨rfl, rfl⟩)).2 k e
    exact ⟨this.1, this.2.2⟩
  unfold f192
  refine lp (fun m j => f192_5 m 102 (nI q) (ob (heN (fun p => g p q) (fun p => decide (¬ p = q) && tb l p) j)) (nI j) σ) n (fun j hj m r hn => ?_) (fun m => ?_) n 1100 0 (by omega) (by omega)
  · have hj6 : j < 6 := by omega
    simp only [heN] at hn
    show f192_5 (m + 1) _ _ _ _ _ = _
    unfold f192_5 f192_63 f192_65
    simp only [acM hT.1, acG hT, acT0 hT.2.1, Option.bind_some, hp, f190G j hj6, f191G j q hj6 hq, bo_0, nI_1, rM_m1 (hgb j q)]
    rw [if_neg (nI_ge hj (by omega))]
    by_cases e1 : j = q
    · rw [if_pos (by rw [e1])]
      simpa [e1] using hn
    · rw [if_neg (fun h => e1 ((nI_eq (by omega) (by omega)).mp h))]
      cases e2 : tb l j
      · simpa [e1, e2] using hn
      · rw [if_neg (by simp)]
        cases e3 : g j q with
        | none =>
          rw [if_pos rfl]
          have : ltO ((heN (fun p => g p q) (fun p => decide (¬ p = q) && tb l p) j).bind (fun p => g p q)) none = false := by
            cases (heN (fun p => g p q) (fun p => decide (¬ p = q) && tb l p) j).bind (fun p => g p q) <;> rfl
          simp only [e3, this] at hn
          simpa [e1, e2] using hn
        | some y =>
          rw [if_neg (by simp)]
          have hy := hgb j q y e3
          cases e4 : heN (fun p => g p q) (fun p => decide (¬ p = q) && tb l p) j with
          | none =>
            rw [if_pos (show ob none = -2 from rfl)]
            simp only [e3, e4] at hn
            simpa [e1, e2, ob, ltO] using hn
          | some k =>
            obtain ⟨k1, x, k2⟩ := hlt j k e4
            have hx31 := hgb k q x k2
            rw [if_neg (ob_ne (show k < 6 by omega)), ob_some, f191G k q (show k < 6 by omega) hq, Option.bind_some, k2]
            simp only [show ∀ z, rM (some z) = nI z from fun _ => rfl, nI_leI hy hx31]
            simp only [e3, e4, Option.bind_some, k2, ltO] at hn
            by_cases e5 : y ≤ x
            · have : ¬ x < y := by omega
              rw [if_pos e5]
              simpa [e1, e2, this, ob] using hn
            · have : x < y := by omega
              rw [if_neg e5]
              simpa [e1, e2, this, ob] using hn
  · show f192_5 (m + 1) _ _ _ _ _ = _
    unfold f192_5 f192_71
    simp only [acG hT, acT0 hT.2.1, Option.bind_some, hp]
    rw [if_pos (nI_le (by omega) (by omega))]
/-- the row worked on bears a register, all live -/
def xg (σ : xM) (C : Cty) (g : Nat → Nat → Option Nat) : Prop := (∀ p, p < 6 → ∀ q, q < 6 → mI σ 105 (6 + 6 * p + q) = rM (g p q)) ∧ mI σ 105 42 = nI (2 ^ pe C - 1)
theorem all_lt (n : Nat) : 2 ^ n - 1 < 2 ^ n := by
  have := Nat.two_pow_pos n
  omega
theorem f192F {g : Nat → Nat → Option Nat} (hT : hasT σ c) (hM : mC σ c C) (hO : OkC C) (hx : xg σ C g) (hgb : ∀ p q h, g p q = some h → h < 2 ^ 31) {q : Nat} (hq : q < 6) : f192 102 (nI q) σ = some (ob (heF C g q), σ) := f192G hT hM.1.2.2.1 hO.1 hx.1 hx.2 (all_lt _) hgb hq
theorem heF_6 {g : Nat → Nat → Option Nat} {q k : Nat} (h : heF C g q = some k) : k < pe C := by
  have h1 := (heN_congr (r := fun p => g p q) (ok := fun p => decide (¬ p = q) && tb (2 ^ pe C - 1) p) (j := 6) (fun i _ => ⟨rfl, rfl⟩)).2 k h
  have h2 := h1.2.1
  rw [Bool.and_eq_true, tb_all, decide_eq_true_eq, decide_eq_true_eq] at h2
  exact h2.2
/-- wrong, by any register -/
theorem f239G {g : Nat → Nat → Option Nat} (hT : hasT σ c) (hM : mC σ c C) (hO : OkC C) (hx : xg σ C g) (hgb : ∀ p q h, g p q = some h → h < 2 ^ 31) : f239 102 σ = some (ob (fs (wrG C g) 0 6), σ) := by
  have h6 := hO.1
  have e0 : fs (wrG C g) 0 6 = fs (wrG C g) 0 (pe C) := by
    have := fs_more (c := wrG C g) (pe C) (6 - pe C) 0 (fun i h1 h2 => by
      unfold wrG
      rw [hO.2.2.2.2.2.2.1 i (by omega)])
    rw [show pe C + (6 - pe C) = 6 by omega] at this
    exact this
  rw [e0]
  unfold f239
  have e1 : ∀ m j, j < pe C → f239_2 (m + 1) 102 (nI j) σ = if wrG C g j = false then f239_2 m 102 (nI (j + 1)) σ else some (nI j, σ) := fun m j hj => by
    have hj6 : j < 6 := by omega
    have hw : mI σ (c + 5) j = wM (wn C j) := (hM.2.2.1 j hj6).2
    rw [f239_2]
    unfold f239_45
    simp only [acM hT.1, acG hT, acT0 hT.2.1, acTa hT.2.1, Option.bind_some, hM.1.2.2.1, hj6, hw, nI_1, wM_m1 hO j, f192F hT hM hO hx hgb hj6]
    rw [if_neg (nI_ge hj (by omega))]
    unfold wrG
    cases ew : wn C j with
    | none => simp
    | some w =>
      have he : (ob (heF C g j) = wM (some w)) = (w = heF C g j) := by
        have h1 : wM (some w) = ob w := by cases w <;> rfl
        rw [h1]
        apply propext
        rw [ob_eq (fun k ek => by have := heF_6 ek; omega) (fun k ek => wn_6 hO (ek ▸ ew))]
        exact ⟨Eq.symm, Eq.symm⟩
      simp only [he]
      by_cases e2 : w = heF C g j
      · simp [e2]
      · simp [e2]
  refine lpE (fun m j => f239_2 m 102 (nI j) σ) (pe C) (wrG C g) (fun o => some (ob o, σ)) (fun j hj hc m r hn => ?_) (fun j hj hc m => ?_) (fun m => ?_) (pe C) 1100 0 (by omega) (by omega)
  · show f239_2 (m + 1) _ _ _ = _
    rw [e1 m j hj, if_pos hc]
    exact hn
  · show f239_2 (m + 1) _ _ _ = _
    rw [e1 m j hj, if_neg (by rw [hc]; simp)]
    rfl
  · show f239_2 (m + 1) _ _ _ = _
    rw [f239_2]
    simp only [acG hT, acT0 hT.2.1, Option.bind_some, hM.1.2.2.1]
    rw [if_pos (nI_le (by omega) (by omega))]
    rfl
/-- low -/
theorem f237N (hT : hasT σ c) (hM : mC σ c C) (hO : OkC C) {k : Nat} (hk : k < nHe C) : f237 102 (nI k) σ = some (nI (lw C k), σ) := by
  have hn := hO.2.2.2.2.2.2.2.2.2.2.2.1
  have h6 := hO.1
  obtain ⟨a, b, d, h, hh⟩ := hO.2.2.2.2.2.2.2.2.2.2.2.2 k hk
  have hb9 := (hO.2.2.2.2.2.2.2.1 _ _ h hh).2.2
  have h99 := hO.2.2.2.2.2.2.2.2.2.1
  obtain ⟨m1, m2, m3⟩ := hM.2.2.2.2 k hk
  have m4 : mI σ (c + 6) (6 * hb C k + ho C k) = nI h := by
    rw [hM.2.2.2.1 _ (by omega) _ (by omega), hh]
    rfl
  have hh2 : hv C k = h := by unfold hv; rw [hh]; rfl
  unfold f237 f237_59
  simp only [acG hT, acT0 hT.2.1, acTa hT.2.1, Option.bind_some, show k < 3 by omega, m1, m2, m3, show (6 : Int32) = nI 6 from rfl, pk_mul, nI_add, show 6 * hb C k + ho C k < 36 by omega, m4]
  unfold lw
  rw [if_pos hk, hh2]
  by_cases e : h ≤ hg C k
  · rw [if_pos (nI_le e (by omega)), show h - hg C k = 0 by omega]
    rfl
  · rw [if_neg (nI_ge (by omega) (by omega)), pk_sub (by omega)]
/-- many -/
theorem f238N (hT : hasT σ c) (hM : mC σ c C) (hO : OkC C) {k : Nat} (hk : k < nHe C) : f238 102 (nI k) σ = some (nI (sp C k), σ) := by
  have hn := hO.2.2.2.2.2.2.2.2.2.2.2.1
  have h6 := hO.1
  obtain ⟨a, b, d, h, hh⟩ := hO.2.2.2.2.2.2.2.2.2.2.2.2 k hk
  have hb9 := (hO.2.2.2.2.2.2.2.1 _ _ h hh).2.2
  have h99 := hO.2.2.2.2.2.2.2.2.2.1
  obtain ⟨m1, m2, m3⟩ := hM.2.2.2.2 k hk
  have m4 : mI σ (c + 6) (6 * hb C k + ho C k) = nI h := by
    rw [hM.2.2.2.1 _ (by omega) _ (by omega), hh]
    rfl
  have hh2 : hv C k = h := by unfold hv; rw [hh]; rfl
  have hl : lw C k = h - hg C k := by unfold lw; rw [if_pos hk, hh2]
  unfold f238
  simp only [acM hT.1, acG hT, acT0 hT.2.1, acTa hT.2.1, Option.bind_some, show k < 3 by omega, m1, m2, m3, show (6 : Int32) = nI 6 from rfl, pk_mul, nI_add, show 6 * hb C k + ho C k < 36 by omega, m4, f237N hT hM hO hk]
  rw [pk_sub (by omega), nI_1]
  unfold sp
  rw [if_pos hk, hh2]
/-- what fitting writes -/
def Pft : Nat → Nat → Bool := fun a k => [105, 112, 113, 114].any (fun b => Nat.beq a b) || (Nat.beq a 102 && (Nat.beq k 33 || Nat.beq k 34))
theorem loFt : lo Pft := fun a k ha => by
  unfold Pft
  rw [anyF (fun b hb => by simp at hb; omega), beqF (show a ≠ 102 by omega)]
  rfl
theorem ft_5 {τ : xM} (h : Upd P105 σ τ) : Upd Pft σ τ := h.mono (fun a k hq => by
  unfold Pft at hq
  rw [Bool.or_eq_false_iff] at hq
  have := List.any_eq_false.mp hq.1 105 (by simp)
  exact beqF (fun e => by rw [e] at this; simp at this))
theorem ft_Q {τ : xM} (h : Upd Pft σ τ) : Upd PmQ σ τ := h.mono (fun a k hq => by
  unfold PmQ at hq
  rw [Bool.or_eq_false_iff] at hq
  unfold Pft
  rw [anyF (fun b hb e => by
    have := List.any_eq_false.mp hq.1 b (by simp at hb ⊢; omega)
    rw [e] at this
    simp at this)]
  rcases Bool.and_eq_false_iff.mp hq.2 with h2 | h2
  · rw [h2]; rfl
  · have h33 := List.any_eq_false.mp h2 33 (by simp)
    have h34 := List.any_eq_false.mp h2 34 (by simp)
    rw [beqF (show k ≠ 33 by simpa using h33), beqF (show k ≠ 34 by simpa using h34)]
    simp)
theorem wg_next (hO : OkC C) {k : Nat} (hk : k + 1 < 3) (x : Nat) : x / wg C (k + 1) / sp C (k + 1) = x / wg C k := by
  rw [Nat.div_div_eq_div_mul]
  congr 1
  unfold wg
  rcases (by omega : k = 0 ∨ k = 1) with rfl | rfl
  · rw [if_neg (by omega), if_pos rfl, if_pos rfl]
  · rw [if_neg (by omega), if_neg (by omega), if_neg (by omega), if_pos rfl, Nat.one_mul]
theorem wg_last (hn : nHe C ≤ 3) {k : Nat} (hk : nHe C = k + 1) : wg C k = 1 := by
  have h1 : ∀ j, nHe C ≤ j → sp C j = 1 := fun j hj => by unfold sp; rw [if_neg (by omega)]
  unfold wg
  rcases (by omega : k = 0 ∨ k = 1 ∨ k = 2) with rfl | rfl | rfl
  · rw [if_pos rfl, h1 1 (by omega), h1 2 (by omega)]
  · rw [if_neg (by omega), if_pos rfl, h1 2 (by omega)]
  · rw [if_neg (by omega), if_neg (by omega)]
/-- the register once the heard from r on are put in -/
def regP (τ : xM) (C : Cty) (x r : Nat) : Prop := ∀ p, p < 6 → ∀ q, q < 6 → (∀ k, r ≤ k → k < nHe C → hb C k = p → ho C k = q → mI τ 105 (6 + 6 * p + q) = nI (lw C k + dg C x k)) ∧ ((∀ k, r ≤ k → k < nHe C → ¬ (hb C k = p ∧ ho C k = q)) → mI τ 105 (6 + 6 * p + q) = rM (r0 C p q))
def P512 : Nat → Nat → Bool := fun a _ => Nat.beq a 105 || Nat.beq a 112
theorem ft_512 {τ : xM} (h : Upd P512 σ τ) : Upd Pft σ τ := h.mono (fun a k hq => by
  unfold Pft at hq
  rw [Bool.or_eq_false_iff] at hq
  have h1 := List.any_eq_false.mp hq.1 105 (by simp)
  have h2 := List.any_eq_false.mp hq.1 112 (by simp)
  unfold P512
  rw [beqF (fun e => by rw [e] at h1; simp at h1), beqF (fun e => by rw [e] at h2; simp at h2)]
  rfl)
/-- the hours of one code are put in -/
theorem f240_119N (K : Nat → Int32 → Int32 → Int32 → Int32 → Int32 → xM → Option (Int32 × xM)) (hT : hasT σ c) (hM : mC σ c C) (hO : OkC C) (hH : OkH C) {x : Nat} (hx : x < 2 ^ 31) (l1 l2 l3 l4 l5 : Int32) : ∀ (r m L : Nat) (τ : xM), r ≤ nHe C → r + 1 ≤ m → (∀ k, r = k + 1 → L = x / wg C k) → L < 2 ^ 31 → Upd Pft σ τ → mI τ 105 42 = nI (2 ^ pe C - 1) → regP τ C x r → (∀ k, r ≤ k → k < nHe C → mI τ 112 k = nI (dg C x k)) → ∃ τ', f240_119 K m 102 l1 l2 l3 l4 l5 (nI L) (nI r - 1) τ = f240_203 K 102 l1 l2 l3 l4 l5 τ' ∧ Upd P512 τ τ' ∧ xg τ' C (rgF C x) ∧ ∀ k, k < nHe C → mI τ' 112 k = nI (dg C x k) := by
  have hn := hO.2.2.2.2.2.2.2.2.2.2.2.1
  have h6 := hO.1
  intro r
  induction r with
  | zero =>
    intro m L τ hr hm hL hL31 hu h42 hreg hho
    obtain ⟨m, rfl⟩ : ∃ i, m = i + 1 := ⟨m - 1, by omega⟩
    refine ⟨τ, ?_, Upd.refl, ⟨fun p hp q hq => ?_, h42⟩, fun k hk => hho k (by omega) hk⟩
    · rw [f240_119, if_pos (show nI 0 - 1 < 0 by decide)]
    · obtain ⟨a, b⟩ := hreg p hp q hq
      unfold rgF
      cases e : lst C p q (nHe C) with
      | some k =>
        obtain ⟨k1, k2, k3⟩ := lst_some _ _ e
        exact a k (by omega) k1 k2 k3
      | none => exact b (fun k _ hk => lst_none _ e k hk)
  | succ r ih =>
    intro m L τ hr hm hL hL31 hu h42 hreg hho
    obtain ⟨m, rfl⟩ : ∃ i, m = i + 1 := ⟨m - 1, by omega⟩
    have hL0 := hL r rfl
    have hr3 : r < 3 := by omega
    have hrn : r < nHe C := by omega
    obtain ⟨p1, p2, p3, -⟩ := hO.2.2.2.2.2.2.2.2.2.2.2.2 r hrn
    have hsb := sp_b hO r
    have hdg : L % sp C r = dg C x r := by rw [hL0]; rfl
    have hT1 := hu.hasT hT
    have hM1 := mC_lo hu loFt hT.2.1.1 hM
    have u2 : Upd Pft σ (wI τ 112 r (nI (dg C x r))) := hu.wI rfl
    have hT2 := u2.hasT hT
    have hM2 := mC_lo u2 loFt hT.2.1.1 hM
    have e112 : mI (wI τ 112 r (nI (dg C x r))) 112 r = nI (dg C x r) := by rw [mI_w, if_pos ⟨rfl, rfl⟩]
    obtain ⟨m1, m2, -⟩ := hM2.2.2.2.2 r hrn
    have hLd : L / sp C r ≤ L := Nat.div_le_self _ _
    rw [nI_pred, f240_119, if_neg (nI_pos (by omega))]
    have st : f240_119 K m 102 l1 l2 l3 l4 l5 (nI (L / sp C r)) (nI r - 1) (wI (wI τ 112 r (nI (dg C x r))) 105 (6 + 6 * hb C r + ho C r) (nI (lw C r + dg C x r))) = f240_119 K m 102 l1 l2 l3 l4 l5 (nI (L / sp C r)) (nI r + (-1)) (wI (wI τ 112 r (nI (dg C x r))) 105 (6 + 6 * hb C r + ho C r) (nI (lw C r + dg C x r))) := by
      rw [Int32.sub_eq_add_neg]
    simp only [acM hT1.1, acG hT1, Option.bind_some, f238N hT1 hM1 hO hrn, rIN hL31 (show sp C r ≠ 0 by omega) (show sp C r < 2 ^ 31 by omega), hdg, hr3]
    simp only [acM hT2.1, acG hT2, acT0 hT2.2.1, acTa hT2.2.1, Option.bind_some, f238N hT2 hM2 hO hrn, dIN hL31 (show sp C r ≠ 0 by omega) (show sp C r < 2 ^ 31 by omega), hr3, m1, m2, f237N hT2 hM2 hO hrn, e112, show (6 : Int32) = nI 6 from rfl, pk_mul, nI_add, show 6 + 6 * hb C r + ho C r < 47 by omega]
    rw [← st]
    obtain ⟨τ', t1, t2, t3, t4⟩ := ih m (L / sp C r) (wI (wI τ 112 r (nI (dg C x r))) 105 (6 + 6 * hb C r + ho C r) (nI (lw C r + dg C x r))) (by omega) (by omega) (fun k hk => by
      subst hk
      rw [hL0]
      exact wg_next hO hr3 x) (by omega) (u2.wI rfl) (by rw [mI_w, if_neg (by omega), mI_w, if_neg (by omega)]; exact h42) (fun p hp q hq => by
      obtain ⟨a, b⟩ := hreg p hp q hq
      have hoth : ∀ y, ¬ (hb C r = p ∧ ho C r = q) → mI (wI (wI τ 112 r (nI (dg C x r))) 105 (6 + 6 * hb C r + ho C r) y) 105 (6 + 6 * p + q) = mI τ 105 (6 + 6 * p + q) := fun y hne => by
        rw [mI_w, if_neg (fun h => hne (by omega)), mI_w, if_neg (by omega)]
      refine ⟨fun k h1 h2 h3 h4 => ?_, fun hno => ?_⟩
      · by_cases ek : k = r
        · subst ek
          rw [mI_w, if_pos ⟨rfl, by omega⟩]
        · have hne : ¬ (hb C r = p ∧ ho C r = q) := fun h => ek (hH k r h2 hrn (by omega) (by omega))
          rw [hoth _ hne]
          exact a k (by omega) h2 h3 h4
      · rw [hoth _ (hno r (Nat.le_refl _) hrn)]
        exact b (fun k h1 h2 => hno k (by omega) h2)) (fun k h1 h2 => by
      rw [mI_w, if_neg (by omega), mI_w]
      by_cases ek : k = r
      · rw [if_pos ⟨rfl, ek⟩, ek]
      · rw [if_neg (fun h => ek h.2)]
        exact hho k (by omega) h2)
    exact ⟨τ', t1, Upd.trans ((Upd.refl.wI rfl).wI rfl) t2, t3, t4⟩
end REF
