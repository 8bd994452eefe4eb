/-! TOURS in the reference: hoursBy -/
theorem least_of {P : Nat → Prop} : ∀ n, P n → ∃ k, k ≤ n ∧ P k ∧ ∀ j, j < k → ¬ P j := by
  intro n
  induction n using Nat.strongRecOn with
  | ind n ih =>
    intro h
    by_cases e : ∃ j, j < n ∧ P j
    · obtain ⟨j, hj, hp⟩ := e
      obtain ⟨k, a, b, c⟩ := ih j hj hp
      exact ⟨k, by omega, b, c⟩
    · exact ⟨n, Nat.le_refl _, h, fun j hj hp => e ⟨j, hj, hp⟩⟩
theorem isH_ex {E : Nat → Nat} (hE : ∀ x, x < 6 → E x < 64) {p S : Nat} (hp : p < 6) : ∃ d, isH E p S d := by
  by_cases e : ∃ k, k < 1000 ∧ ∃ q, cov E p k S q
  · obtain ⟨k, hk, hq⟩ := e
    obtain ⟨d, d1, ⟨q, hq⟩, d3⟩ := least_of (P := fun k => ∃ q, cov E p k S q) k hq
    refine ⟨d, by omega, fun _ => ⟨q, ?_, hq⟩, fun j r hr => ?_⟩
    · obtain ⟨T, hT, -⟩ := hq
      exact (wlk_6 hE hp hT).1
    · by_cases e : j < d
      · exact absurd ⟨r, hr⟩ (d3 j e)
      · omega
  · refine ⟨1000, Nat.le_refl _, fun h => absurd h (by omega), fun k q h => ?_⟩
    by_cases e2 : k < 1000
    · exact absurd ⟨k, e2, q, h⟩ e
    · omega
theorem hrs_ok {E : Nat → Nat} (hE : ∀ x, x < 6 → E x < 64) {p S : Nat} (hp : p < 6) : isH E p S (hrs E p S) := Classical.epsilon_spec (p := fun d => isH E p S d) (isH_ex hE hp)
theorem wlk_n {E : Nat → Nat} {p n : Nat} (hE : ∀ x, x < n → E x < 2 ^ n) (hp : p < n) : ∀ {k S q : Nat}, wlk E p k S q → q < n := by
  intro k
  induction k with
  | zero =>
    intro S q h
    rw [h.2]
    exact hp
  | succ k ih =>
    intro S q h
    obtain ⟨S', r, h1, h2, -⟩ := h
    rcases Nat.lt_or_ge q n with h | h
    · exact h
    · rw [tb_lt (hE r (ih h1)) h] at h2
      cases h2
theorem fs_none {c : Nat → Bool} : ∀ (m j : Nat), fs c j m = none → ∀ i, j ≤ i → i < j + m → c i = false := by
  intro m
  induction m with
  | zero => intro j _ i h1 h2; omega
  | succ m ih =>
    intro j h i h1 h2
    unfold fs at h
    cases e : c j
    · rw [e] at h
      by_cases e2 : i = j
      · rw [e2]
        exact e
      · exact ih (j + 1) (by simpa using h) i (by omega) (by omega)
    · rw [e] at h
      simp at h
def P111 : Nat → Nat → Bool := fun a _ => Nat.beq a 111
def Pcm : Nat → Nat → Bool := fun a _ => Nat.beq a 110 || Nat.beq a 111
theorem loCm : lo Pcm := fun a k ha => by
  unfold Pcm
  rw [beqF (show a ≠ 110 by omega), beqF (show a ≠ 111 by omega)]
  rfl
theorem lo111 : lo P111 := fun a k ha => beqF (show a ≠ 111 by omega)
theorem cm_111 {σ τ : xM} (h : Upd P111 σ τ) : Upd Pcm σ τ := h.mono (fun a k hq => by
  unfold Pcm at hq
  rw [Bool.or_eq_false_iff] at hq
  exact hq.2)
/-- who has been come by in so many hours, by the houses come by -/
def comeOk (τ : xM) (a : Nat) (E : Nat → Nat) (p h : Nat) : Prop := ∀ k, k < 64 → ∃ t, t < 64 ∧ mI τ a k = nI t ∧ ∀ q, q < 6 → (tb t q = true ↔ wlk E p h k q)
def thenOk (τ : xM) (E : Nat → Nat) (p h : Nat) (D : Nat → Nat → Nat → Prop) : Prop := ∀ k', k' < 64 → ∃ t, t < 64 ∧ mI τ 111 k' = nI t ∧ ∀ r, r < 6 → (tb t r = true ↔ ∃ k q, D k q r ∧ wlk E p h k q ∧ tb (E q) r = true ∧ k' = k ||| 2 ^ r)
theorem thenOk_iff {τ : xM} {E : Nat → Nat} {p h : Nat} {D D' : Nat → Nat → Nat → Prop} (hd : ∀ k q r, r < 6 → wlk E p h k q → tb (E q) r = true → (D k q r ↔ D' k q r)) (ht : thenOk τ E p h D) : thenOk τ E p h D' := fun k' hk' => by
  obtain ⟨t, t1, t2, t3⟩ := ht k' hk'
  refine ⟨t, t1, t2, fun r hr => (t3 r hr).trans ⟨?_, ?_⟩⟩
  · rintro ⟨k, q, a, b, d, e⟩
    exact ⟨k, q, (hd k q r hr b d).mp a, b, d, e⟩
  · rintro ⟨k, q, a, b, d, e⟩
    exact ⟨k, q, (hd k q r hr b d).mpr a, b, d, e⟩
section REF
variable {σ : xM} {c : Nat} {s : Sta} {C : Cty}
/-- spreads -/
theorem f230N (hT : hasT σ c) (hM : mC σ c C) (hO : OkC C) {p h k q : Nat} (hk : k < 64) (hq : q < pe C) (hwl : wlk (nr C) p h k q) {D : Nat → Nat → Nat → Prop} (ht : thenOk σ (nr C) p h D) : ∃ τ, f230 102 (nI k) (nI q) σ = some τ ∧ Upd P111 σ τ ∧ thenOk τ (nr C) p h (fun a b r => D a b r ∨ (a = k ∧ b = q)) := by
  have h6 := hO.1
  unfold f230
  refine lpI (fun m j τ => f230_2 m 102 (nI k) (nI q) (nI j) τ) (pe C) (fun j τ => Upd P111 σ τ ∧ thenOk τ (nr C) p h (fun a b r => D a b r ∨ (a = k ∧ b = q ∧ r < j))) (fun o => ∃ τ, o = some τ ∧ Upd P111 σ τ ∧ thenOk τ (nr C) p h (fun a b r => D a b r ∨ (a = k ∧ b = q))) (fun j hj m τ hI => ?_) (fun m τ hI => ?_) (pe C) 1100 0 σ (by omega) (by omega) ⟨Upd.refl, thenOk_iff (fun a b r _ _ _ => ⟨Or.inl, fun h => h.elim id (fun x => absurd x.2.2 (by omega))⟩) ht⟩
  · obtain ⟨hu, ho⟩ := hI
    have hT' := hu.hasT hT
    have hM' := mC_lo hu lo111 hT.2.1.1 hM
    have hj6 : j < 6 := by omega
    have hn : nr C q < 64 := hO.nr64 (by omega)
    show ∃ τ', _ ∧ f230_2 (m + 1) _ _ _ _ _ = f230_2 m _ _ _ _ _
    rw [f230_2]
    unfold f230_41
    simp only [acM hT'.1, acG hT', acT0 hT'.2.1, Option.bind_some, hM'.1.2.2.1, f198N hT' hM' (show q < 6 by omega), f157N hn hj6, bo_0, nI_1, orN k hk j hj6, show k ||| 2 ^ j < 64 from or_lt hk hj6]
    rw [if_neg (nI_ge hj (by omega))]
    cases e : tb (nr C q) j
    · rw [if_pos rfl]
      refine ⟨τ, ⟨hu, thenOk_iff (fun a b r hr hw hb => ⟨fun h => h.elim Or.inl (fun x => Or.inr ⟨x.1, x.2.1, by omega⟩), fun h => h.elim Or.inl (fun x => Or.inr ⟨x.1, x.2.1, ?_⟩)⟩) ho⟩, rfl⟩
      have : r ≠ j := fun er => by
        rw [x.2.1, er, e] at hb
        cases hb
      omega
    · obtain ⟨t, t1, t2, t3⟩ := ho (k ||| 2 ^ j) (or_lt hk hj6)
      rw [if_neg (by simp), t2]
      refine ⟨wI τ 111 (k ||| 2 ^ j) (nI (t ||| 2 ^ j)), ⟨hu.wI rfl, fun k' hk' => ?_⟩, ?_⟩
      · by_cases ek : k' = k ||| 2 ^ j
        · refine ⟨t ||| 2 ^ j, or_lt t1 hj6, by rw [mI_w, if_pos ⟨rfl, ek⟩], fun r hr => ?_⟩
          rw [tb_or, Bool.or_eq_true, decide_eq_true_eq]
          by_cases er : r = j
          · exact ⟨fun _ => ⟨k, q, Or.inr ⟨rfl, rfl, by omega⟩, hwl, by rw [er]; exact e, by rw [er]; exact ek⟩, fun _ => Or.inr er⟩
          · rw [t3 r hr]
            constructor
            · rintro (⟨a, b, x1, x2, x3, x4⟩ | x)
              · exact ⟨a, b, x1.elim Or.inl (fun y => Or.inr ⟨y.1, y.2.1, by omega⟩), x2, x3, ek.trans x4⟩
              · exact absurd x er
            · rintro ⟨a, b, x1, x2, x3, x4⟩
              exact Or.inl ⟨a, b, x1.elim Or.inl (fun y => Or.inr ⟨y.1, y.2.1, by omega⟩), x2, x3, ek.symm.trans x4⟩
        · obtain ⟨u, u1, u2, u3⟩ := ho k' hk'
          refine ⟨u, u1, by rw [mI_w, if_neg (fun h => ek h.2)]; exact u2, fun r hr => ?_⟩
          rw [u3 r hr]
          constructor
          · rintro ⟨a, b, x1, x2, x3, x4⟩
            exact ⟨a, b, x1.elim Or.inl (fun y => Or.inr ⟨y.1, y.2.1, by omega⟩), x2, x3, x4⟩
          · rintro ⟨a, b, x1, x2, x3, x4⟩
            refine ⟨a, b, x1.elim Or.inl (fun y => Or.inr ⟨y.1, y.2.1, ?_⟩), x2, x3, x4⟩
            have : r ≠ j := fun er => ek (by rw [x4, y.1, er])
            omega
      · simp only [acM hT'.1, Option.bind_some, show k ||| 2 ^ j < 64 from or_lt hk hj6, orN t t1 j hj6]
  · obtain ⟨hu, ho⟩ := hI
    have hT' := hu.hasT hT
    have hM' := mC_lo hu lo111 hT.2.1.1 hM
    refine ⟨τ, ?_, hu, thenOk_iff (fun a b r hr hw hb => ⟨fun h => h.elim Or.inl (fun x => Or.inr ⟨x.1, x.2.1⟩), fun h => h.elim Or.inl (fun x => Or.inr ⟨x.1, x.2, ?_⟩)⟩) ho⟩
    · show f230_2 (m + 1) _ _ _ _ _ = _
      rw [f230_2]
      simp only [acG hT', acT0 hT'.2.1, Option.bind_some, hM'.1.2.2.1]
      rw [if_pos (nI_le (by omega) (by omega))]
      rfl
    · rcases Nat.lt_or_ge r (pe C) with h | h
      · exact h
      · rw [x.2, tb_lt (hO.2.2.1 q (by omega)) h] at hb
        cases hb
/-- all houses at hand spread -/
theorem f229_109N (K : Nat → Int32 → Int32 → Int32 → xM → Option (Int32 × xM)) (hT : hasT σ c) (hM : mC σ c C) (hO : OkC C) {p h : Nat} (hp : p < pe C) (hc : comeOk σ 110 (nr C) p h) (ht : thenOk σ (nr C) p h (fun _ _ _ => False)) (S M H : Int32) : ∃ τ, f229_106 K 102 S M H σ = f229_166 K 102 S M H τ ∧ Upd P111 σ τ ∧ thenOk τ (nr C) p h (fun _ _ _ => True) := by
  have h6 := hO.1
  have hEn : ∀ x, x < pe C → nr C x < 2 ^ pe C := fun x hx => hO.2.2.1 x (by omega)
  have hE : ∀ x, x < 6 → nr C x < 64 := fun x hx => hO.nr64 hx
  unfold f229_106
  refine lpI (fun m j τ => f229_109 K m 102 S M H (nI j) τ) 64 (fun j τ => Upd P111 σ τ ∧ thenOk τ (nr C) p h (fun a _ _ => a < j)) (fun o => ∃ τ, o = f229_166 K 102 S M H τ ∧ Upd P111 σ τ ∧ thenOk τ (nr C) p h (fun _ _ _ => True)) (fun j hj m τ hI => ?_) (fun m τ hI => ?_) 64 1100 0 σ rfl (by omega) ⟨Upd.refl, thenOk_iff (fun a b r _ _ _ => ⟨fun h => h.elim, fun h => absurd h (by omega)⟩) ht⟩
  · obtain ⟨hu, ho⟩ := hI
    show ∃ τ', _ ∧ f229_109 K (m + 1) _ _ _ _ _ _ = f229_109 K m _ _ _ _ _ _
    rw [f229_109, if_neg (show ¬ (64 : Int32) ≤ nI j from nI_ge (b := 64) hj (by omega))]
    have hin : ∃ υ, f229_119 K (f229_109 K m) 1100 102 S M H (nI j) 0 τ = f229_109 K m 102 S M H (nI (j + 1)) υ ∧ Upd P111 σ υ ∧ thenOk υ (nr C) p h (fun a b _ => a < j ∨ (a = j ∧ b < pe C)) := by
      refine lpI (fun i q υ => f229_119 K (f229_109 K m) i 102 S M H (nI j) (nI q) υ) (pe C) (fun q υ => Upd P111 σ υ ∧ thenOk υ (nr C) p h (fun a b _ => a < j ∨ (a = j ∧ b < q))) (fun o => ∃ υ, o = f229_109 K m 102 S M H (nI (j + 1)) υ ∧ Upd P111 σ υ ∧ thenOk υ (nr C) p h (fun a b _ => a < j ∨ (a = j ∧ b < pe C))) (fun q hq i υ hI => ?_) (fun i υ hI => ?_) (pe C) 1100 0 τ (by omega) (by omega) ⟨hu, thenOk_iff (fun a b r _ _ _ => ⟨Or.inl, fun h => h.elim id (fun x => absurd x.2 (by omega))⟩) ho⟩
      · obtain ⟨hu1, ho1⟩ := hI
        have hT' := hu1.hasT hT
        have hM' := mC_lo hu1 lo111 hT.2.1.1 hM
        have hq6 : q < 6 := by omega
        obtain ⟨t, t1, t2, t3⟩ := hc j hj
        have t2' : mI υ 110 j = nI t := (hu1.2.1 110 j rfl).trans t2
        show ∃ τ', _ ∧ f229_119 K (f229_109 K m) (i + 1) _ _ _ _ _ _ _ = f229_119 K (f229_109 K m) i _ _ _ _ _ _ _
        rw [f229_119]
        unfold f229_154
        simp only [acM hT'.1, acG hT', acT0 hT'.2.1, Option.bind_some, hM'.1.2.2.1, hj, t2', f157N t1 hq6, bo_0, nI_1]
        rw [if_neg (nI_ge hq (by omega))]
        cases e : tb t q
        · rw [if_pos rfl]
          refine ⟨υ, ⟨hu1, thenOk_iff (fun a b r hr hw hb => ⟨fun h => h.elim Or.inl (fun x => Or.inr ⟨x.1, by omega⟩), fun h => h.elim Or.inl (fun x => Or.inr ⟨x.1, ?_⟩)⟩) ho1⟩, rfl⟩
          have : b ≠ q := fun eb => by
            rw [x.1, eb] at hw
            rw [(t3 q hq6).mpr hw] at e
            cases e
          omega
        · obtain ⟨ω, w1, w2, w3⟩ := f230N hT' hM' hO hj hq ((t3 q hq6).mp e) ho1
          rw [if_neg (by simp), w1, Option.bind_some]
          refine ⟨ω, ⟨hu1.trans w2, thenOk_iff (fun a b r hr hw hb => ⟨?_, ?_⟩) w3⟩, rfl⟩
          · rintro ((h1 | h1) | h1)
            · exact Or.inl h1
            · exact Or.inr ⟨h1.1, by omega⟩
            · exact Or.inr ⟨h1.1, by omega⟩
          · rintro (h1 | h1)
            · exact Or.inl (Or.inl h1)
            · by_cases eb : b = q
              · exact Or.inr ⟨h1.1, eb⟩
              · exact Or.inl (Or.inr ⟨h1.1, by omega⟩)
      · obtain ⟨hu1, ho1⟩ := hI
        have hT' := hu1.hasT hT
        have hM' := mC_lo hu1 lo111 hT.2.1.1 hM
        refine ⟨υ, ?_, hu1, ho1⟩
        show f229_119 K (f229_109 K m) (i + 1) _ _ _ _ _ _ _ = _
        rw [f229_119]
        simp only [acG hT', acT0 hT'.2.1, Option.bind_some, hM'.1.2.2.1]
        rw [if_pos (nI_le (by omega) (by omega))]
        unfold f229_160
        rw [nI_1]
    obtain ⟨υ, v1, v2, v3⟩ := hin
    refine ⟨υ, ⟨v2, thenOk_iff (fun a b r hr hw hb => ⟨fun h => h.elim (fun x => by omega) (fun x => by omega), fun h => ?_⟩) v3⟩, v1⟩
    by_cases ea : a = j
    · exact Or.inr ⟨ea, wlk_n hEn hp hw⟩
    · exact Or.inl (by omega)
  · obtain ⟨hu, ho⟩ := hI
    refine ⟨τ, ?_, hu, thenOk_iff (fun a b r hr hw hb => ⟨fun _ => trivial, fun _ => (wlk_6 hE (by omega) hw).2⟩) ho⟩
    show f229_109 K (m + 1) _ _ _ _ _ _ = _
    rw [f229_109, if_pos (show (64 : Int32) ≤ nI 64 by decide)]
/-- one hour -/
theorem f229_82N (K : Nat → Int32 → Int32 → Int32 → xM → Option (Int32 × xM)) (hT : hasT σ c) (hM : mC σ c C) (hO : OkC C) {p h : Nat} (hp : p < pe C) (hc : comeOk σ 110 (nr C) p h) (S M : Int32) : ∃ τ, f229_82 K 102 S M (nI h) σ = K 102 S M (nI (h + 1)) τ ∧ Upd Pcm σ τ ∧ comeOk τ 110 (nr C) p (h + 1) := by
  have hS := hT.1
  have A1 : ∃ τ, f229_82 K 102 S M (nI h) σ = f229_106 K 102 S M (nI h) τ ∧ Upd P111 σ τ ∧ ∀ k, k < 64 → mI τ 111 k = 0 := by
    unfold f229_82
    refine lpI (fun m j τ => f229_85 K m 102 S M (nI h) (nI j) τ) 64 (fun j τ => Upd P111 σ τ ∧ ∀ k, k < j → mI τ 111 k = 0) (fun o => ∃ τ, o = f229_106 K 102 S M (nI h) τ ∧ Upd P111 σ τ ∧ ∀ k, k < 64 → mI τ 111 k = 0) (fun j hj m τ hI => ?_) (fun m τ hI => ?_) 64 1100 0 σ rfl (by omega) ⟨Upd.refl, fun k hk => by omega⟩
    · obtain ⟨hu, hz⟩ := hI
      refine ⟨wI τ 111 j 0, ⟨hu.wI rfl, fun k hk => ?_⟩, ?_⟩
      · rw [mI_w]
        by_cases e : k = j
        · rw [if_pos ⟨rfl, e⟩]
        · rw [if_neg (fun h => e h.2)]
          exact hz k (by omega)
      · show f229_85 K (m + 1) _ _ _ _ _ _ = f229_85 K m _ _ _ _ _ _
        rw [f229_85, if_neg (show ¬ (64 : Int32) ≤ nI j from nI_ge (b := 64) hj (by omega))]
        simp only [acM (hu.sh hS), Option.bind_some, hj, nI_1]
    · obtain ⟨hu, hz⟩ := hI
      refine ⟨τ, ?_, hu, hz⟩
      show f229_85 K (m + 1) _ _ _ _ _ _ = _
      rw [f229_85, if_pos (show (64 : Int32) ≤ nI 64 by decide)]
  obtain ⟨τ1, a1, a2, a3⟩ := A1
  obtain ⟨τ2, b1, b2, b3⟩ := f229_109N K (a2.hasT hT) (mC_lo a2 lo111 hT.2.1.1 hM) hO hp (h := h) (fun k hk => by
    obtain ⟨t, t1, t2, t3⟩ := hc k hk
    exact ⟨t, t1, (a2.2.1 110 k rfl).trans t2, t3⟩) (fun k hk => ⟨0, by omega, a3 k hk, fun r hr => ⟨fun h => absurd h (by rw [tb_0]; simp), fun ⟨_, _, h, _⟩ => h.elim⟩⟩) S M (nI h)
  have u2 := a2.trans b2
  have hS2 := u2.sh hS
  have A3 : ∃ τ, f229_166 K 102 S M (nI h) τ2 = K 102 S M (nI (h + 1)) τ ∧ Upd Pcm τ2 τ ∧ ∀ k, k < 64 → mI τ 110 k = mI τ2 111 k := by
    unfold f229_166
    refine lpI (fun m j τ => f229_169 K m 102 S M (nI h) (nI j) τ) 64 (fun j τ => Upd Pcm τ2 τ ∧ (∀ k, mI τ 111 k = mI τ2 111 k) ∧ ∀ k, k < j → mI τ 110 k = mI τ2 111 k) (fun o => ∃ τ, o = K 102 S M (nI (h + 1)) τ ∧ Upd Pcm τ2 τ ∧ ∀ k, k < 64 → mI τ 110 k = mI τ2 111 k) (fun j hj m τ hI => ?_) (fun m τ hI => ?_) 64 1100 0 τ2 rfl (by omega) ⟨Upd.refl, fun _ => rfl, fun k hk => by omega⟩
    · obtain ⟨hu, hy, hz⟩ := hI
      refine ⟨wI τ 110 j (mI τ2 111 j), ⟨hu.wI rfl, fun k => ?_, fun k hk => ?_⟩, ?_⟩
      · rw [mI_w, if_neg (by omega)]
        exact hy k
      · rw [mI_w]
        by_cases e : k = j
        · rw [if_pos ⟨rfl, e⟩, e]
        · rw [if_neg (fun h => e h.2)]
          exact hz k (by omega)
      · show f229_169 K (m + 1) _ _ _ _ _ _ = f229_169 K m _ _ _ _ _ _
        rw [f229_169, if_neg (show ¬ (64 : Int32) ≤ nI j from nI_ge (b := 64) hj (by omega))]
        simp only [acM (hu.sh hS2), Option.bind_some, hj, hy, nI_1]
    · obtain ⟨hu, hy, hz⟩ := hI
      refine ⟨τ, ?_, hu, hz⟩
      show f229_169 K (m + 1) _ _ _ _ _ _ = _
      rw [f229_169, if_pos (show (64 : Int32) ≤ nI 64 by decide)]
      unfold f229_196
      rw [nI_1]
  obtain ⟨τ3, d1, d2, d3⟩ := A3
  refine ⟨τ3, by rw [a1, b1, d1], (cm_111 u2).trans d2, fun k hk => ?_⟩
  obtain ⟨t, t1, t2, t3⟩ := b3 k hk
  refine ⟨t, t1, (d3 k hk).trans t2, fun q hq => (t3 q hq).trans ⟨?_, ?_⟩⟩
  · rintro ⟨a, b, -, x2, x3, x4⟩
    exact ⟨a, b, x2, x3, x4⟩
  · rintro ⟨a, b, x2, x3, x4⟩
    exact ⟨a, b, trivial, x2, x3, x4⟩
/-- whether a set has been come by -/
theorem f229_47N (K : Nat → Int32 → Int32 → Int32 → xM → Option (Int32 × xM)) (hS : Sh σ) {E : Nat → Nat} (hE : ∀ x, x < 6 → E x < 64) {p h S : Nat} (hp : p < 6) (hS64 : S < 64) (hc : comeOk σ 110 E p h) (M : Int32) : ((∃ q, cov E p h S q) ∧ f229_47 K 1100 102 (nI S) M (nI h) 0 σ = some (nI h, σ)) ∨ ((¬ ∃ q, cov E p h S q) ∧ f229_47 K 1100 102 (nI S) M (nI h) 0 σ = f229_82 K 102 (nI S) M (nI h) σ) := by
  have hco : ∀ k, k < 64 → (mI σ 110 k = 0 ↔ ¬ ∃ q, wlk E p h k q) := fun k hk => by
    obtain ⟨t, t1, t2, t3⟩ := hc k hk
    rw [t2, nI_0' t (by omega)]
    constructor
    · rintro rfl ⟨q, hq⟩
      have := (t3 q (wlk_6 hE hp hq).1).mpr hq
      rw [tb_0] at this
      cases this
    · intro hno
      refine tb_ext6 t1 (by omega) (fun i hi => ?_)
      rw [tb_0, Bool.eq_false_iff]
      intro h1
      exact hno ⟨i, (t3 i hi).mp h1⟩
  have hl : f229_47 K 1100 102 (nI S) M (nI h) 0 σ = (fun o : Option Nat => match o with
      | some _ => some (nI h, σ)
      | none => f229_82 K 102 (nI S) M (nI h) σ) (fs (fun k => !decide (mI σ 110 k = 0) && decide (dif S k = 0)) 0 64) := by
    refine lpE (fun m j => f229_47 K m 102 (nI S) M (nI h) (nI j) σ) 64 (fun k => !decide (mI σ 110 k = 0) && decide (dif S k = 0)) (fun o : Option Nat => match o with
      | some _ => some (nI h, σ)
      | none => f229_82 K 102 (nI S) M (nI h) σ) (fun j hj hcj m r hn => ?_) (fun j hj hcj m => ?_) (fun m => ?_) 64 1100 0 rfl (by omega)
    · show f229_47 K (m + 1) _ _ _ _ _ _ = _
      have hn : f229_47 K m 102 (nI S) M (nI h) (nI (j + 1)) σ = r := hn
      rw [f229_47, if_neg (show ¬ (64 : Int32) ≤ nI j from nI_ge (b := 64) hj (by omega))]
      unfold f229_76
      simp only [acM hS, Option.bind_some, hj, nI_1, difN S hS64 j hj, nI_0' _ (show dif S j < 2 ^ 31 from Nat.lt_trans (dif_lt hS64) (by decide))]
      by_cases e1 : mI σ 110 j = 0
      · rw [if_pos e1]
        exact hn
      · rw [if_neg e1]
        by_cases e2 : dif S j = 0
        · rw [decide_eq_false e1, decide_eq_true e2] at hcj
          cases hcj
        · rw [if_neg e2]
          exact hn
    · show f229_47 K (m + 1) _ _ _ _ _ _ = _
      rw [Bool.and_eq_true, Bool.not_eq_true', decide_eq_false_iff_not, decide_eq_true_eq] at hcj
      rw [f229_47, if_neg (show ¬ (64 : Int32) ≤ nI j from nI_ge (b := 64) hj (by omega))]
      simp only [acM hS, Option.bind_some, hj, difN S hS64 j hj, nI_0' _ (show dif S j < 2 ^ 31 from Nat.lt_trans (dif_lt hS64) (by decide))]
      rw [if_neg hcj.1, if_pos hcj.2]
    · show f229_47 K (m + 1) _ _ _ _ _ _ = _
      rw [f229_47, if_pos (show (64 : Int32) ≤ nI 64 by decide)]
  rw [hl]
  cases e : fs (fun k => !decide (mI σ 110 k = 0) && decide (dif S k = 0)) 0 64 with
  | some k =>
    obtain ⟨k1, k2⟩ := fs_lt _ _ _ e
    have k2 : (!decide (mI σ 110 k = 0) && decide (dif S k = 0)) = true := k2
    rw [Bool.and_eq_true, Bool.not_eq_true', decide_eq_false_iff_not, decide_eq_true_eq] at k2
    have hk64 : k < 64 := by omega
    refine Or.inl ⟨?_, rfl⟩
    have h1 : ∃ q, wlk E p h k q := Classical.byContradiction (fun h => k2.1 ((hco k hk64).mpr h))
    obtain ⟨q, hq⟩ := h1
    exact ⟨q, k, hq, (dif_0 hS64 hk64).mp k2.2⟩
  | none =>
    refine Or.inr ⟨?_, rfl⟩
    rintro ⟨q, T, hT, hs⟩
    have hT64 := (wlk_6 hE hp hT).2
    have h1 : (!decide (mI σ 110 T = 0) && decide (dif S T = 0)) = false := fs_none _ _ e T (by omega) (by omega)
    rw [decide_eq_true ((dif_0 hS64 hT64).mpr hs), Bool.and_true, Bool.not_eq_false', decide_eq_true_eq] at h1
    exact (hco T hT64).mp h1 ⟨q, hT⟩
/-- hoursBy -/
theorem f229N (hT : hasT σ c) (hM : mC σ c C) (hO : OkC C) {p S M : Nat} (hp : p < pe C) (hS64 : S < 64) (hM12 : M ≤ 12) : ∃ τ, f229 102 (nI p) (nI S) (nI M) σ = some (if hrs (nr C) p S ≤ M then nI (hrs (nr C) p S) else 9999, τ) ∧ Upd Pcm σ τ := by
  have h6 := hO.1
  have hp6 : p < 6 := by omega
  have hE : ∀ x, x < 6 → nr C x < 64 := fun x hx => hO.nr64 hx
  have hH := hrs_ok (E := nr C) (S := S) hE hp6
  have h2p : 2 ^ p < 64 := Nat.pow_lt_pow_right (a := 2) (by omega) (show p < 6 from hp6)
  have A1 : ∃ τ, f229 102 (nI p) (nI S) (nI M) σ = f229_24 102 (nI p) (nI S) (nI M) τ ∧ Upd Pcm σ τ ∧ ∀ k, k < 64 → mI τ 110 k = 0 := by
    unfold f229
    refine lpI (fun m j τ => f229_3 m 102 (nI p) (nI S) (nI M) (nI j) τ) 64 (fun j τ => Upd Pcm σ τ ∧ ∀ k, k < j → mI τ 110 k = 0) (fun o => ∃ τ, o = f229_24 102 (nI p) (nI S) (nI M) τ ∧ Upd Pcm σ τ ∧ ∀ k, k < 64 → mI τ 110 k = 0) (fun j hj m τ hI => ?_) (fun m τ hI => ?_) 64 1100 0 σ rfl (by omega) ⟨Upd.refl, fun k hk => by omega⟩
    · obtain ⟨hu, hz⟩ := hI
      refine ⟨wI τ 110 j 0, ⟨hu.wI rfl, fun k hk => ?_⟩, ?_⟩
      · rw [mI_w]
        by_cases e : k = j
        · rw [if_pos ⟨rfl, e⟩]
        · rw [if_neg (fun h => e h.2)]
          exact hz k (by omega)
      · show f229_3 (m + 1) _ _ _ _ _ _ = f229_3 m _ _ _ _ _ _
        rw [f229_3, if_neg (show ¬ (64 : Int32) ≤ nI j from nI_ge (b := 64) hj (by omega))]
        simp only [acM (hu.sh hT.1), Option.bind_some, hj, nI_1]
    · obtain ⟨hu, hz⟩ := hI
      refine ⟨τ, ?_, hu, hz⟩
      show f229_3 (m + 1) _ _ _ _ _ _ = _
      rw [f229_3, if_pos (show (64 : Int32) ≤ nI 64 by decide)]
  obtain ⟨τ1, a1, a2, a3⟩ := A1
  have hS1 := a2.sh hT.1
  have u0 : Upd Pcm σ (wI τ1 110 (2 ^ p) (nI (2 ^ p))) := a2.wI rfl
  have hc0 : comeOk (wI τ1 110 (2 ^ p) (nI (2 ^ p))) 110 (nr C) p 0 := fun k hk => by
    by_cases e : k = 2 ^ p
    · refine ⟨2 ^ p, h2p, by rw [mI_w, if_pos ⟨rfl, e⟩], fun q hq => ?_⟩
      rw [tb_pow, decide_eq_true_eq]
      exact ⟨fun h => ⟨e, h⟩, fun h => h.2⟩
    · refine ⟨0, by omega, by rw [mI_w, if_neg (fun h => e h.2)]; exact a3 k hk, fun q hq => ?_⟩
      rw [tb_0]
      exact ⟨fun h => absurd h (by simp), fun h => absurd h.1 e⟩
  have hloop : ∀ (r h m : Nat) (τ : xM), h + r = M + 1 → r + 1 ≤ m → (∀ j, j < h → ¬ ∃ q, cov (nr C) p j S q) → Upd Pcm σ τ → comeOk τ 110 (nr C) p h → ∃ τ', f229_38 m 102 (nI S) (nI M) (nI h) τ = some (if hrs (nr C) p S ≤ M then nI (hrs (nr C) p S) else 9999, τ') ∧ Upd Pcm σ τ' := by
    intro r
    induction r with
    | zero =>
      intro h m τ hr hm hno hu hc
      obtain ⟨m, rfl⟩ : ∃ i, m = i + 1 := ⟨m - 1, by omega⟩
      refine ⟨τ, ?_, hu⟩
      have : ¬ hrs (nr C) p S ≤ M := fun hle => by
        obtain ⟨q, -, hq⟩ := hH.2.1 (by omega)
        exact hno _ (by omega) ⟨q, hq⟩
      rw [f229_38, if_pos (nI_lt (by omega) (by omega)), if_neg this]
      rfl
    | succ r ih =>
      intro h m τ hr hm hno hu hc
      obtain ⟨m, rfl⟩ : ∃ i, m = i + 1 := ⟨m - 1, by omega⟩
      rw [f229_38, if_neg (nI_nlt (by omega) (by omega))]
      rcases f229_47N (f229_38 m) (hu.sh hT.1) hE hp6 hS64 hc (nI M) with ⟨⟨q, hq⟩, e⟩ | ⟨hn, e⟩
      · have h1 := hH.2.2 h q hq
        have h2 : hrs (nr C) p S = h := by
          by_cases hlt : hrs (nr C) p S < h
          · obtain ⟨q', -, hq'⟩ := hH.2.1 (by omega)
            exact absurd ⟨q', hq'⟩ (hno _ hlt)
          · omega
        rw [e, h2, if_pos (by omega)]
        exact ⟨τ, rfl, hu⟩
      · obtain ⟨υ, v1, v2, v3⟩ := f229_82N (f229_38 m) (hu.hasT hT) (mC_lo hu loCm hT.2.1.1 hM) hO hp hc (nI S) (nI M)
        rw [e, v1]
        refine ih (h + 1) m υ (by omega) (by omega) (fun j hj => ?_) (hu.trans v2) v3
        by_cases ej : j = h
        · rw [ej]
          exact hn
        · exact hno j (by omega)
  rw [a1]
  unfold f229_24
  simp only [acM hS1, Option.bind_some, shlN p hp6, h2p]
  exact hloop (M + 1) 0 1100 _ (by omega) (by omega) (fun j hj => by omega) u0 hc0
end REF
