/-! THE TEXT: a new city of the reference -/
def gk (i : Nat) : Nat := if i = 9 then 12 else 11
def gl (i : Nat) : Nat := if i < 5 then 6 else if i = 5 then 36 else if i < 9 then 3 else 6
def wR (σ : xM) (a k b : Nat) : xM := sR σ (up2 (mR σ) a k (some b))
theorem mR_w (σ : xM) (a k x b j : Nat) : mR (wR σ a k x) b j = if b = a ∧ j = k then some x else mR σ b j := by
  show up2 (mR σ) a k (some x) b j = _
  unfold up2
  by_cases e : b = a
  · subst e
    rw [va_up_self]
    by_cases e2 : j = k
    · subst e2
      rw [va_up_self, if_pos ⟨rfl, rfl⟩]
    · rw [va_up_ne _ _ e2, if_neg (fun h => e2 h.2)]
  · rw [va_up_ne _ _ e, if_neg (fun h => e h.1)]
theorem pR_ok {σ : xM} {a c k b : Nat} (h1 : a < mN σ) (h2 : mK σ a = c) : pR σ a c k b = some (wR σ a k b) := by
  unfold pR
  rw [okO h1 h2]
  rfl
theorem up_if {α : Type} (f : Nat → α) (m : Nat) (x : α) (a : Nat) : va_up f m x a = if a = m then x else f a := by
  by_cases e : a = m
  · subst e
    rw [va_up_self, if_pos rfl]
  · rw [va_up_ne _ _ e, if_neg e]
theorem mK_n (σ : xM) (c n u a : Nat) : mK (sNew σ c n u) a = if a = mN σ then c else mK σ a := up_if _ _ _ _
theorem mL_n (σ : xM) (c n u a : Nat) : mL (sNew σ c n u) a = if a = mN σ then n else mL σ a := up_if _ _ _ _
theorem mI_n (σ : xM) (c n u a k : Nat) : mI (sNew σ c n u) a k = if a = mN σ then 0 else mI σ a k := by
  show va_up (mI σ) (mN σ) (fun _ => 0) a k = _
  rw [up_if]
  split <;> rfl
theorem mJ_n (σ : xM) (c n u a k : Nat) : mJ (sNew σ c n u) a k = if a = mN σ then 0 else mJ σ a k := by
  show va_up (mJ σ) (mN σ) (fun _ => 0) a k = _
  rw [up_if]
  split <;> rfl
theorem mR_n (σ : xM) (c n u a k : Nat) : mR (sNew σ c n u) a k = if a = mN σ then none else mR σ a k := by
  show va_up (mR σ) (mN σ) (fun _ => none) a k = _
  rw [up_if]
  split <;> rfl
/-- what lay below stays -/
def Old (m : Nat) (σ τ : xM) : Prop := ∀ a, a < m → mK τ a = mK σ a ∧ mL τ a = mL σ a ∧ (∀ k, mI τ a k = mI σ a k) ∧ (∀ k, mJ τ a k = mJ σ a k) ∧ ∀ k, mR τ a k = mR σ a k
theorem Old.trans {m : Nat} {σ τ υ : xM} (h : Old m σ τ) (g : Old m τ υ) : Old m σ υ := fun a ha => by
  obtain ⟨a1, a2, a3, a4, a5⟩ := h a ha
  obtain ⟨b1, b2, b3, b4, b5⟩ := g a ha
  exact ⟨b1.trans a1, b2.trans a2, fun k => (b3 k).trans (a3 k), fun k => (b4 k).trans (a4 k), fun k => (b5 k).trans (a5 k)⟩
theorem Old.sh {m : Nat} {σ τ : xM} (h : Old m σ τ) (hm : 115 ≤ m) (hN : 115 ≤ mN τ) (hS : Sh σ) : Sh τ := by
  refine ⟨hN, fun a ha => ?_, fun e he => ?_⟩
  · rw [(h a (by omega)).1, (h a (by omega)).2.1]
    exact hS.2.1 a ha
  · have hl : ∀ e, e ∈ xRf → e.1 < 115 := by decide
    rw [(h e.1 (by have := hl e he; omega)).2.2.2.2]
    exact hS.2.2 e he
def glS : Nat → Nat
  | 0 => 0
  | i + 1 => glS i + gl i
/-- the new city, i of its arrays made -/
def Bld (σ τ : xM) (c i w : Nat) : Prop := mN τ = c + 1 + i ∧ mK τ c = 8 ∧ (∀ k, mI τ c k = if k = 0 then -1 else 0) ∧ (∀ j, j < i → mR τ c (7 + j) = some (c + (1 + j)) ∧ mK τ (c + (1 + j)) = gk j ∧ mL τ (c + (1 + j)) = gl j ∧ ∀ k, mI τ (c + (1 + j)) k = 0) ∧ Old c σ τ ∧ mU τ = w + glS i
def stN (τ : xM) (c i : Nat) : xM := wR (sNew τ (gk i) (gl i) (gl i)) c (7 + i) (mN τ)
theorem gl_n : ∀ i, i < 10 → xinB (nI (gl i)) 2000 = true ∧ (nI (gl i)).toNatClampNeg = gl i := by decide
theorem Bld_step {σ τ : xM} {c i w : Nat} (h : Bld σ τ c i w) (hi : i < 10) : Bld σ (stN τ c i) c (i + 1) w ∧ ∀ (K : xM → Option xM), ((nA τ (gk i) (nI (gl i))).bind fun y => (pR y c 8 (7 + i) (mN τ)).bind K) = K (stN τ c i) := by
  obtain ⟨h1, h2, h3, h4, h5, h6⟩ := h
  obtain ⟨g1, g2⟩ := gl_n i hi
  have k2 : mK (sNew τ (gk i) (gl i) (gl i)) c = 8 := by rw [mK_n, if_neg (by omega)]; exact h2
  have hn : mN (sNew τ (gk i) (gl i) (gl i)) = mN τ + 1 := rfl
  refine ⟨⟨?_, k2, fun k => ?_, fun j hj => ?_, fun a ha => ?_, ?_⟩, fun K => ?_⟩
  · show mN τ + 1 = _
    omega
  · show mI (sNew τ (gk i) (gl i) (gl i)) c k = _
    rw [mI_n, if_neg (by omega)]
    exact h3 k
  · have e1 : mR (stN τ c i) c (7 + j) = if c = c ∧ 7 + j = 7 + i then some (mN τ) else mR (sNew τ (gk i) (gl i) (gl i)) c (7 + j) := mR_w _ _ _ _ _ _
    have e2 : mK (stN τ c i) (c + (1 + j)) = if c + (1 + j) = mN τ then gk i else mK τ (c + (1 + j)) := mK_n τ (gk i) (gl i) (gl i) _
    have e3 : mL (stN τ c i) (c + (1 + j)) = if c + (1 + j) = mN τ then gl i else mL τ (c + (1 + j)) := mL_n τ (gk i) (gl i) (gl i) _
    have e4 : ∀ k, mI (stN τ c i) (c + (1 + j)) k = if c + (1 + j) = mN τ then 0 else mI τ (c + (1 + j)) k := fun k => mI_n τ (gk i) (gl i) (gl i) _ _
    by_cases e : j = i
    · subst e
      rw [e1, e2, e3, if_pos ⟨rfl, rfl⟩, if_pos (by omega), if_pos (by omega)]
      refine ⟨by rw [show mN τ = c + (1 + j) by omega], rfl, rfl, fun k => ?_⟩
      rw [e4, if_pos (by omega)]
    · obtain ⟨b1, b2, b3, b4⟩ := h4 j (by omega)
      rw [e1, e2, e3, if_neg (by omega), if_neg (by omega), if_neg (by omega), mR_n, if_neg (by omega)]
      refine ⟨b1, b2, b3, fun k => ?_⟩
      rw [e4, if_neg (by omega)]
      exact b4 k
  · obtain ⟨b1, b2, b3, b4, b5⟩ := h5 a ha
    refine ⟨?_, ?_, fun k => ?_, fun k => ?_, fun k => ?_⟩
    · show mK (sNew τ (gk i) (gl i) (gl i)) a = _
      rw [mK_n, if_neg (by omega)]; exact b1
    · show mL (sNew τ (gk i) (gl i) (gl i)) a = _
      rw [mL_n, if_neg (by omega)]; exact b2
    · show mI (sNew τ (gk i) (gl i) (gl i)) a k = _
      rw [mI_n, if_neg (by omega)]; exact b3 k
    · show mJ (sNew τ (gk i) (gl i) (gl i)) a k = _
      rw [mJ_n, if_neg (by omega)]; exact b4 k
    · show mR (wR _ _ _ _) a k = _
      rw [mR_w, if_neg (by omega), mR_n, if_neg (by omega)]; exact b5 k
  · show mU τ + gl i = w + (glS i + gl i)
    omega
  · unfold nA
    rw [g1, g2]
    show (pR (sNew τ (gk i) (gl i) (gl i)) c 8 (7 + i) (mN τ)).bind K = _
    rw [pR_ok (by rw [hn]; omega) k2]
    rfl
theorem Bld_0 {σ : xM} {u : Nat} : Bld σ (wI (sNew σ 8 0 u) (mN σ) 0 (-1)) (mN σ) 0 (mU σ + u) := by
  refine ⟨rfl, ?_, fun k => ?_, fun j hj => by omega, fun a ha => ⟨?_, ?_, fun k => ?_, fun k => ?_, fun k => ?_⟩, rfl⟩
  · show mK (sNew σ 8 0 u) (mN σ) = 8
    rw [mK_n, if_pos rfl]
  · rw [mI_w]
    by_cases e : k = 0
    · rw [if_pos ⟨rfl, e⟩, if_pos e]
    · rw [if_neg (fun h => e h.2), if_neg e, mI_n, if_pos rfl]
  · show mK (sNew σ 8 0 u) a = _
    rw [mK_n, if_neg (by omega)]
  · show mL (sNew σ 8 0 u) a = _
    rw [mL_n, if_neg (by omega)]
  · rw [mI_w, if_neg (by omega), mI_n, if_neg (by omega)]
  · show mJ (sNew σ 8 0 u) a k = _
    rw [mJ_n, if_neg (by omega)]
  · show mR (sNew σ 8 0 u) a k = _
    rw [mR_n, if_neg (by omega)]
theorem Bld_T {σ τ : xM} {c w : Nat} (h : Bld σ τ c 10 w) (hc : 115 ≤ c) : ShT τ c := by
  obtain ⟨h1, h2, h3, h4, h5⟩ := h
  refine ⟨hc, by omega, h2, fun i hi => ?_, ?_, fun i hi => ?_, (h4 5 (by omega)).2.2.1, (h4 6 (by omega)).2.2.1, (h4 7 (by omega)).2.2.1, (h4 8 (by omega)).2.2.1, (h4 9 (by omega)).2.2.1⟩
  · obtain ⟨a1, a2, -⟩ := h4 i (by omega)
    refine ⟨a1, ?_⟩
    rw [a2]
    unfold gk
    rw [if_neg (by omega)]
  · exact ⟨(h4 9 (by omega)).1, (h4 9 (by omega)).2.1⟩
  · rw [(h4 i (by omega)).2.2.1]
    unfold gl
    rw [if_pos hi]
theorem Upd_T {P : Nat → Nat → Bool} {σ τ : xM} {c : Nat} (h : Upd P σ τ) (hT : ShT σ c) : ShT τ c := by
  obtain ⟨⟨a1, a2, a3, a4, -⟩, -⟩ := h
  unfold ShT
  rw [a1, a2, a3, a4]
  exact hT
theorem Upd_Old {P : Nat → Nat → Bool} {σ τ : xM} {m : Nat} (h : Upd P σ τ) (hp : ∀ a k, a < m → P a k = false) : Old m σ τ := fun a ha => by
  obtain ⟨⟨a1, a2, a3, a4, -⟩, h2, h3⟩ := h
  exact ⟨by rw [a1], by rw [a2], fun k => h2 a k (hp a k ha), fun k => h3 a k (hp a k ha), fun k => by rw [a3]⟩
def Pn (b : Nat) : Nat → Nat → Bool := fun a _ => Nat.beq a b
/-- the constructor -/
theorem f146N {σ : xM} (hc : 115 ≤ mN σ) (u : Nat) : ∃ τ, f146 (mN σ) (sNew σ 8 0 u) = some τ ∧ Old (mN σ) σ τ ∧ ShT τ (mN σ) ∧ mCx τ (mN σ) C0 (-1) ∧ mN τ = mN σ + 11 ∧ mU τ = mU σ + u + 81 := by
  generalize hcc : mN σ = c at hc
  have hk : mK (sNew σ 8 0 u) c = 8 := by rw [mK_n, if_pos hcc.symm]
  have hn : c < mN (sNew σ 8 0 u) := by show c < mN σ + 1; omega
  have b0 : Bld σ (wI (sNew σ 8 0 u) c 0 (-1)) c 0 (mU σ + u) := hcc ▸ Bld_0
  generalize hτ : wI (sNew σ 8 0 u) c 0 (-1) = τ0 at b0
  have e0 : ∃ τ, f146 c (sNew σ 8 0 u) = f146_88 1100 c 0 τ ∧ Bld σ τ c 10 (mU σ + u) := by
    unfold f146
    rw [pI_ok hn hk, Option.bind_some, hτ]
    obtain ⟨b1, s0⟩ := Bld_step b0 (by omega)
    generalize stN τ0 c 0 = τ1 at b1 s0
    obtain ⟨b2, s1⟩ := Bld_step b1 (by omega)
    generalize stN τ1 c (0 + 1) = τ2 at b2 s1
    obtain ⟨b3, s2⟩ := Bld_step b2 (by omega)
    generalize stN τ2 c (0 + 1 + 1) = τ3 at b3 s2
    obtain ⟨b4, s3⟩ := Bld_step b3 (by omega)
    generalize stN τ3 c (0 + 1 + 1 + 1) = τ4 at b4 s3
    obtain ⟨b5, s4⟩ := Bld_step b4 (by omega)
    generalize stN τ4 c (0 + 1 + 1 + 1 + 1) = τ5 at b5 s4
    obtain ⟨b6, s5⟩ := Bld_step b5 (by omega)
    generalize stN τ5 c (0 + 1 + 1 + 1 + 1 + 1) = τ6 at b6 s5
    obtain ⟨b7, s6⟩ := Bld_step b6 (by omega)
    generalize stN τ6 c (0 + 1 + 1 + 1 + 1 + 1 + 1) = τ7 at b7 s6
    obtain ⟨b8, s7⟩ := Bld_step b7 (by omega)
    generalize stN τ7 c (0 + 1 + 1 + 1 + 1 + 1 + 1 + 1) = τ8 at b8 s7
    obtain ⟨b9, s8⟩ := Bld_step b8 (by omega)
    generalize stN τ8 c (0 + 1 + 1 + 1 + 1 + 1 + 1 + 1 + 1) = τ9 at b9 s8
    obtain ⟨b10, s9⟩ := Bld_step b9 (by omega)
    generalize stN τ9 c (0 + 1 + 1 + 1 + 1 + 1 + 1 + 1 + 1 + 1) = τa at b10 s9
    refine ⟨τa, ?_, b10⟩
    refine (s0 _).trans ?_
    refine (s1 _).trans ?_
    refine (s2 _).trans ?_
    refine (s3 _).trans ?_
    refine (s4 _).trans ?_
    refine (s5 _).trans ?_
    refine (s6 _).trans ?_
    refine (s7 _).trans ?_
    refine (s8 _).trans ?_
    exact s9 _
  obtain ⟨τ, e0, hb⟩ := e0
  have hT := Bld_T hb hc
  have A1 : ∃ υ, f146_88 1100 c (nI 0) τ = f146_107 c υ ∧ Upd (Pn (c + 6)) τ υ ∧ ∀ k, k < 36 → mI υ (c + 6) k = -1 := by
    refine lpI (fun m j τ => f146_88 m c (nI j) τ) 36 (fun j υ => Upd (Pn (c + 6)) τ υ ∧ ∀ k, k < j → mI υ (c + 6) k = -1) (fun o => ∃ υ, o = f146_107 c υ ∧ Upd (Pn (c + 6)) τ υ ∧ ∀ k, k < 36 → mI υ (c + 6) k = -1) (fun j hj m υ hI => ?_) (fun m υ hI => ?_) 36 1100 0 τ rfl (by omega) ⟨Upd.refl, fun k hk => by omega⟩
    · obtain ⟨hu, hz⟩ := hI
      have hT' := Upd_T hu hT
      refine ⟨wI υ (c + 6) j (-1), ⟨hu.wI (by unfold Pn; exact Nat.beq_refl _), fun k hk => ?_⟩, ?_⟩
      · rw [mI_w]
        by_cases e : k = j
        · rw [if_pos ⟨rfl, e⟩]
        · rw [if_neg (fun h => e h.2)]
          exact hz k (by omega)
      · show f146_88 (m + 1) _ _ _ = f146_88 m _ _ _
        rw [f146_88, if_neg (show ¬ (36 : Int32) ≤ nI j from nI_ge (b := 36) hj (by omega))]
        simp only [acT0 hT', acTw hT', Option.bind_some, hj, nI_1]
    · obtain ⟨hu, hz⟩ := hI
      refine ⟨υ, ?_, hu, hz⟩
      show f146_88 (m + 1) _ _ _ = _
      rw [f146_88, if_pos (show (36 : Int32) ≤ nI 36 by decide)]
  obtain ⟨υ, a1, a2, a3⟩ := A1
  have hTu := Upd_T a2 hT
  have A2 : ∃ ω, f146_109 1100 c (nI 0) υ = some ω ∧ Upd (Pn (c + 5)) υ ω ∧ ∀ k, k < 6 → mI ω (c + 5) k = -1 := by
    refine lpI (fun m j τ => f146_109 m c (nI j) τ) 6 (fun j ω => Upd (Pn (c + 5)) υ ω ∧ ∀ k, k < j → mI ω (c + 5) k = -1) (fun o => ∃ ω, o = some ω ∧ Upd (Pn (c + 5)) υ ω ∧ ∀ k, k < 6 → mI ω (c + 5) k = -1) (fun j hj m ω hI => ?_) (fun m ω hI => ?_) 6 1100 0 υ rfl (by omega) ⟨Upd.refl, fun k hk => by omega⟩
    · obtain ⟨hu, hz⟩ := hI
      have hT' := Upd_T hu hTu
      refine ⟨wI ω (c + 5) j (-1), ⟨hu.wI (by unfold Pn; exact Nat.beq_refl _), fun k hk => ?_⟩, ?_⟩
      · rw [mI_w]
        by_cases e : k = j
        · rw [if_pos ⟨rfl, e⟩]
        · rw [if_neg (fun h => e h.2)]
          exact hz k (by omega)
      · show f146_109 (m + 1) _ _ _ = f146_109 m _ _ _
        rw [f146_109, if_neg (show ¬ (6 : Int32) ≤ nI j from nI_ge (b := 6) hj (by omega))]
        simp only [acT0 hT', acTw hT', Option.bind_some, hj, nI_1]
    · obtain ⟨hu, hz⟩ := hI
      refine ⟨ω, ?_, hu, hz⟩
      show f146_109 (m + 1) _ _ _ = _
      rw [f146_109, if_pos (show (6 : Int32) ≤ nI 6 by decide)]
      rfl
  obtain ⟨ω, d1, d2, d3⟩ := A2
  have pn : ∀ b a k, a ≠ b → Pn b a k = false := fun b a k h => beqF h
  obtain ⟨h1, h2, h3, h4, h5, h6⟩ := hb
  have z : ∀ a k, a ≠ c + 5 → a ≠ c + 6 → mI ω a k = mI τ a k := fun a k n5 n6 => by
    rw [d2.2.1 a k (pn _ _ _ n5), a2.2.1 a k (pn _ _ _ n6)]
  refine ⟨ω, ?_, ?_, Upd_T d2 hTu, ?_, ?_, ?_⟩
  · rw [e0]
    refine a1.trans ?_
    unfold f146_107
    exact d1
  · exact h5.trans ((Upd_Old a2 (fun a k ha => pn _ _ _ (by omega))).trans (Upd_Old d2 (fun a k ha => pn _ _ _ (by omega))))
  · have zc : ∀ k, mI ω c k = if k = 0 then -1 else 0 := fun k => (z c k (by omega) (by omega)).trans (h3 k)
    refine ⟨⟨zc 0, zc 1, zc 2, zc 3, zc 4, zc 5, zc 6⟩, fun p hp => absurd hp (Nat.not_lt_zero p), fun p hp => ⟨?_, d3 p hp⟩, fun p hp q hq => ?_, fun k hk => absurd hk (Nat.not_lt_zero k)⟩
    · rw [z (c + 4) p (by omega) (by omega)]
      exact (h4 3 (by omega)).2.2.2 p
    · rw [d2.2.1 (c + 6) _ (pn _ _ _ (by omega))]
      exact a3 _ (by omega)
  · rw [d2.1.2.2.2.1, a2.1.2.2.2.1, h1]
  · rw [d2.1.2.2.2.2, a2.1.2.2.2.2, h6]; rfl
