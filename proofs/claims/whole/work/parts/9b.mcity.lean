/-! THE TEXT: city of the reference -/
/-- what lay below m stays, save the reference's own reading -/
def Kp (m : Nat) (σ τ : xM) : Prop := m ≤ mN τ ∧ (∀ a, a < m → mK τ a = mK σ a ∧ mL τ a = mL σ a ∧ (a ≠ 102 → (∀ k, mI τ a k = mI σ a k) ∧ (∀ k, mJ τ a k = mJ σ a k) ∧ ∀ k, mR τ a k = mR σ a k)) ∧ (∀ k, k ≠ 4 → mR τ 102 k = mR σ 102 k) ∧ ∀ k, 16 ≤ k → mI τ 102 k = mI σ 102 k
theorem Kp.trans {m : Nat} {σ τ υ : xM} (h : Kp m σ τ) (g : Kp m τ υ) : Kp m σ υ := by
  obtain ⟨a1, a2, a3, a4⟩ := h
  obtain ⟨b1, b2, b3, b4⟩ := g
  refine ⟨b1, fun a ha => ?_, fun k hk => (b3 k hk).trans (a3 k hk), fun k hk => (b4 k hk).trans (a4 k hk)⟩
  obtain ⟨x1, x2, x3⟩ := a2 a ha
  obtain ⟨y1, y2, y3⟩ := b2 a ha
  refine ⟨y1.trans x1, y2.trans x2, fun h => ?_⟩
  obtain ⟨u1, u2, u3⟩ := x3 h
  obtain ⟨v1, v2, v3⟩ := y3 h
  exact ⟨fun k => (v1 k).trans (u1 k), fun k => (v2 k).trans (u2 k), fun k => (v3 k).trans (u3 k)⟩
theorem Kp_upd {P : Nat → Nat → Bool} {m : Nat} {σ τ : xM} (h : Upd P σ τ) (hm : m ≤ mN σ) (h1 : ∀ a k, a < m → a ≠ 102 → P a k = false) (h2 : ∀ k, 16 ≤ k → P 102 k = false) : Kp m σ τ := by
  obtain ⟨⟨a1, a2, a3, a4, -⟩, a6, a7⟩ := h
  refine ⟨by rw [a4]; exact hm, fun a ha => ⟨by rw [a1], by rw [a2], fun e => ⟨fun k => a6 a k (h1 a k ha e), fun k => a7 a k (h1 a k ha e), fun k => by rw [a3]⟩⟩, fun k _ => by rw [a3], fun k hk => a6 102 k (h2 k hk)⟩
theorem Kp_old {m : Nat} {σ τ : xM} (h : Old m σ τ) (hm : 102 < m) (hN : m ≤ mN τ) : Kp m σ τ :=
  ⟨hN, fun a ha => ⟨(h a ha).1, (h a ha).2.1, fun _ => ⟨(h a ha).2.2.1, (h a ha).2.2.2.1, (h a ha).2.2.2.2⟩⟩, fun k _ => (h 102 hm).2.2.2.2 k, fun k _ => (h 102 hm).2.2.1 k⟩
theorem Kp_wR {m b : Nat} {σ : xM} (hN : m ≤ mN σ) : Kp m σ (wR σ 102 4 b) := by
  refine ⟨hN, fun a ha => ⟨rfl, rfl, fun e => ⟨fun _ => rfl, fun _ => rfl, fun k => ?_⟩⟩, fun k hk => ?_, fun k _ => rfl⟩
  · rw [mR_w, if_neg (fun h => e h.1)]
  · rw [mR_w, if_neg (fun h => hk h.2)]
theorem rf_34 : ∀ e, e ∈ xRf → e.1 < 115 ∧ ¬ (e.1 = 102 ∧ (e.2.1 = 4 ∨ e.2.1 = 3)) := by decide
theorem Kp.sh {m : Nat} {σ τ : xM} (h : Kp m σ τ) (hm : 115 ≤ m) (hS : Sh σ) : Sh τ := by
  obtain ⟨a1, a2, a3, a4⟩ := h
  refine ⟨by omega, fun a ha => ?_, fun e he => ?_⟩
  · rw [(a2 a (by omega)).1, (a2 a (by omega)).2.1]
    exact hS.2.1 a ha
  · obtain ⟨r1, r2⟩ := rf_34 e he
    by_cases e1 : e.1 = 102
    · rw [e1, a3 _ (fun h => r2 ⟨e1, Or.inl h⟩), ← e1]
      exact hS.2.2 e he
    · rw [((a2 e.1 (by omega)).2.2 e1).2.2]
      exact hS.2.2 e he
theorem Sh_wR {σ : xM} {k b : Nat} (hk : k = 4 ∨ k = 3) (hS : Sh σ) : Sh (wR σ 102 k b) := by
  refine ⟨hS.1, hS.2.1, fun e he => ?_⟩
  rw [mR_w, if_neg (fun h => (rf_34 e he).2 ⟨h.1, by rw [h.2]; exact hk⟩)]
  exact hS.2.2 e he
theorem ShT_wR {σ : xM} {k b c : Nat} (h : ShT σ c) : ShT (wR σ 102 k b) c := by
  obtain ⟨h1, h2, h3, h4, h5, h6, h7, h8, h9, ha, hb⟩ := h
  have e : ∀ j, mR (wR σ 102 k b) c j = mR σ c j := fun j => by rw [mR_w, if_neg (by omega)]
  refine ⟨h1, h2, h3, fun i hi => ⟨?_, (h4 i hi).2⟩, ⟨?_, h5.2⟩, h6, h7, h8, h9, ha, hb⟩
  · rw [e]; exact (h4 i hi).1
  · rw [e]; exact h5.1
theorem Kp.shT {m c : Nat} {σ τ : xM} (h : Kp m σ τ) (hm : mN σ ≤ m) (hT : ShT σ c) : ShT τ c := by
  obtain ⟨h1, h2, h3, h4, h5, h6, h7, h8, h9, ha, hb⟩ := hT
  obtain ⟨a1, a2, a3, a4⟩ := h
  have e0 := a2 c (by omega)
  have eR : ∀ k, mR τ c k = mR σ c k := (e0.2.2 (by omega)).2.2
  have ek : ∀ i, i ≤ 10 → mK τ (c + i) = mK σ (c + i) := fun i hi => (a2 (c + i) (by omega)).1
  have el : ∀ i, i ≤ 10 → mL τ (c + i) = mL σ (c + i) := fun i hi => (a2 (c + i) (by omega)).2.1
  refine ⟨h1, by omega, e0.1.trans h3, fun i hi => ⟨(eR _).trans (h4 i hi).1, (ek _ (by omega)).trans (h4 i hi).2⟩, ⟨(eR _).trans h5.1, (ek _ (by omega)).trans h5.2⟩, fun i hi => (el _ (by omega)).trans (h6 i hi), (el _ (by omega)).trans h7, (el _ (by omega)).trans h8, (el _ (by omega)).trans h9, (el _ (by omega)).trans ha, (el _ (by omega)).trans hb⟩
theorem Kp.fn {m a : Nat} {σ τ : xM} (h : Kp m σ τ) (ha : a < m) (h1 : a ≠ 102) : mI τ a = mI σ a := funext ((h.2.1 a ha).2.2 h1).1
theorem Kp.qm {m : Nat} {σ τ : xM} {C : Cty} {s : Sta} (h : Kp m σ τ) (hm : mN σ = m) (hQ : QM σ C s) : QM τ C s := by
  obtain ⟨q1, q2, q3, q4⟩ := hQ
  have h115 := q1.1
  refine ⟨h.sh (by omega) q1, q2, ?_, ?_⟩
  · rw [h.fn (by omega) (by omega)]; exact q3
  · rcases q4 with ⟨z1, z2⟩ | ⟨z1, z2, c, ⟨z3, z4, z5⟩, z6⟩
    · exact Or.inl ⟨z1, (h.2.2.1 3 (by omega)).trans z2⟩
    · refine Or.inr ⟨z1, z2, c, ⟨h.sh (by omega) q1, h.shT (by omega) z4, (h.2.2.1 3 (by omega)).trans z5⟩, ?_⟩
      have b1 := z4.1
      have b2 := z4.2.1
      have e0 : mI τ c = mI σ c := h.fn (by omega) (by omega)
      have e : ∀ i, i ≤ 10 → mI τ (c + i) = mI σ (c + i) := fun i hi => h.fn (by omega) (by omega)
      unfold mC
      rw [e0, e 1 (by omega), e 2 (by omega), e 3 (by omega), e 4 (by omega), e 5 (by omega), e 6 (by omega), e 7 (by omega), e 8 (by omega), e 9 (by omega)]
      exact z6
theorem Kp.mp {m n na : Nat} {σ τ : xM} {ps : Nat → Sta} (h : Kp m σ τ) (hm : 115 ≤ m) (hP : mP σ n ps na) : mP τ n ps na := by
  unfold mP
  rw [h.fn (show 106 < m by omega) (by omega), h.2.2.2 20 (by omega)]
  exact hP
theorem Kp.mim {m n ni : Nat} {σ τ : xM} {im : Nat → Sta} (h : Kp m σ τ) (hm : 115 ≤ m) (hP : mIm σ n im ni) : mIm τ n im ni := by
  unfold mIm
  rw [h.fn (show 107 < m by omega) (by omega), h.2.2.2 21 (by omega)]
  exact hP
theorem Kp.old {m : Nat} {σ τ : xM} (h : Kp m σ τ) (hm : 115 ≤ m) : Old 102 σ τ := fun a ha => by
  obtain ⟨x1, x2, x3⟩ := h.2.1 a (by omega)
  exact ⟨x1, x2, x3 (by omega)⟩
/-- what city does behind the reading -/
noncomputable def rst (y12 : xM) : Option (Int32 × xM) := (gI y12 102 9 12).bind fun v13 => if v13 ≤ 0 then (gR y12 102 9 4).bind fun r14 => (pR y12 102 9 3 r14).bind fun σ15 => (cO σ15 102 9).bind fun _ => (f189 102 σ15).bind fun y16 => f183_103 1100 102 0 y16 else (pI y12 102 9 1 4).bind fun σ18 => (gI σ18 102 9 13).bind fun v19 => (pI σ18 102 9 2 v19).bind fun σ20 => some (-1, σ20)
section REF
variable {σ : xM} {n N : Nat} {f : Nat → Int32}
theorem m183N (hS : Sh σ) (ht : mTp σ n f) {x : Int32} (hx : okT n x = false) : f183 102 x σ = some (-1, gd (th σ) 2) := by
  unfold okT at hx
  rw [Bool.not_eq_false', decide_eq_true_eq] at hx
  have hS1 : Sh (th σ) := hS
  have e6 : mI (th σ) 102 6 = nI n := by unfold th; rw [mI_w, if_neg (by omega)]; exact ht.2.1
  have h17 : f183_17 102 (th σ) = some (-1, gd (th σ) 2) := by
    unfold f183_17
    simp only [acM hS1, Option.bind_some, f151N hS1]
  unfold f183
  simp only [acM hS, Option.bind_some]
  show (if x < 0 then f183_17 102 (th σ) else _) = _
  by_cases e1 : x < 0
  · rw [if_pos e1, h17]
  · rw [if_neg e1]
    show ((gI (th σ) 102 9 6).bind fun v2 => if x ≤ v2 then _ else f183_17 102 (th σ)) = _
    simp only [acM hS1, Option.bind_some, e6]
    rw [if_neg (Int32.not_le.mpr (hx.resolve_left e1)), h17]
theorem m183a (hS : Sh σ) (ht : mTp σ n f) (hf : ∀ i, i < n → okB (f i)) (hN : N ≤ n) : ∃ τ, f183 102 (nI N) σ = (f173 102 τ).bind rst ∧ mRd τ (mN σ) f N 0 D0 ∧ Kp (mN σ) σ τ ∧ mI τ 102 6 = 0 ∧ mI τ 102 0 = 0 ∧ mN τ = mN σ + 11 ∧ mU τ = mU σ + 98 := by
  have hn9 := ht.1
  have h115 := hS.1
  have hS1 : Sh (th σ) := hS
  have e6 : mI (th σ) 102 6 = nI n := by unfold th; rw [mI_w, if_neg (by omega)]; exact ht.2.1
  generalize hc : mN σ = c at h115
  generalize hω : wI (wI (wI (wI (th σ) 102 7 (nI N)) 102 6 0) 102 8 0) 102 12 0 = ω
  have w : ∀ a k, mI ω a k = if a = 102 ∧ k = 12 then 0 else if a = 102 ∧ k = 8 then 0 else if a = 102 ∧ k = 6 then 0 else if a = 102 ∧ k = 7 then nI N else if a = 102 ∧ k = 0 then 0 else mI σ a k := fun a k => by
    rw [← hω]
    unfold th
    rw [mI_w, mI_w, mI_w, mI_w, mI_w]
  have uω : Upd (fun a k => Nat.beq a 102 && Nat.ble k 12) σ ω := by
    rw [← hω]
    exact ((((Upd.refl.wI rfl).wI rfl).wI rfl).wI rfl).wI rfl
  have hSω := uω.sh hS
  have hcω : mN ω = c := uω.1.2.2.2.1.trans hc
  have kω : Kp c σ ω := Kp_upd uω (by omega) (fun a k _ h => by show (Nat.beq a 102 && Nat.ble k 12) = false; rw [beqF h]; rfl) (fun k hk => by
    show (Nat.beq 102 102 && Nat.ble k 12) = false
    have : Nat.ble k 12 = false := by rw [Bool.eq_false_iff]; intro h; rw [Nat.ble_eq] at h; omega
    rw [this]; rfl)
  obtain ⟨α, a1, a2, a3, a4, a5, a6⟩ := f146N (σ := ω) (by omega) (xNF 8)
  rw [hcω] at a1 a2 a3 a4
  have kα : Kp c ω α := Kp_old a2 (by omega) (by have := a3.2.1; omega)
  have hSα := kα.sh h115 hSω
  have hSβ : Sh (wR α 102 4 c) := Sh_wR (Or.inl rfl) hSα
  have kβ : Kp c α (wR α 102 4 c) := Kp_wR kα.1
  have hTβ := ShT_wR (k := 4) (b := c) a3
  have hRβ : mR (wR α 102 4 c) 102 4 = some c := by rw [mR_w, if_pos ⟨rfl, rfl⟩]
  have xβ : mCx (wR α 102 4 c) c C0 (-1) := a4
  have iβ : ∀ a k, a < c → mI (wR α 102 4 c) a k = mI ω a k := fun a k ha => (a2 a ha).2.2.1 k
  have pα : pR α 102 9 4 c = some (wR α 102 4 c) := pR_ok (sh_n hSα (by decide)) (sh_k hSα (by decide))
  have nβ : mN (wR α 102 4 c) = c + 11 := by show mN α = _; omega
  have uβ : mU (wR α 102 4 c) = mU σ + 98 := by
    show mU α = _
    rw [a6, uω.1.2.2.2.2, show xNF 8 = 17 from rfl]
  generalize hβ : wR α 102 4 c = β at hSβ kβ hTβ hRβ xβ iβ pα nβ uβ
  have hγR : hasR (wI β 102 9 0) c := ⟨hSβ, hTβ, hRβ⟩
  have gi : ∀ a k, a < c → ¬ (a = 102 ∧ k = 9) → mI (wI β 102 9 0) a k = mI ω a k := fun a k ha h => by rw [mI_w, if_neg h]; exact iβ a k ha
  have hB : rmB (wI β 102 9 0) f N := by
    refine ⟨hSβ, by omega, ?_, fun i hi => ?_, fun i hi => hf i (by omega)⟩
    · rw [gi 102 7 (by omega) (by omega), w, if_neg (by omega), if_neg (by omega), if_neg (by omega), if_pos ⟨rfl, rfl⟩]
    · rw [gi 103 i (by omega) (by omega), w, if_neg (by omega), if_neg (by omega), if_neg (by omega), if_neg (by omega), if_neg (by omega)]
      exact ht.2.2 i (by omega)
  have g8 : mI (wI β 102 9 0) 102 8 = nI 0 := by rw [gi 102 8 (by omega) (by omega), w, if_neg (by omega), if_pos ⟨rfl, rfl⟩]; rfl
  have g9 : ¬ mI (wI β 102 9 0) 102 9 = 5 := by rw [mI_w, if_pos ⟨rfl, rfl⟩]; decide
  have g12 : mI (wI β 102 9 0) 102 12 = 0 := by rw [gi 102 12 (by omega) (by omega), w, if_pos ⟨rfl, rfl⟩]
  have g6 : mI (wI β 102 9 0) 102 6 = 0 := by rw [gi 102 6 (by omega) (by omega), w, if_neg (by omega), if_neg (by omega), if_pos ⟨rfl, rfl⟩]
  have g0 : mI (wI β 102 9 0) 102 0 = 0 := by rw [gi 102 0 (by omega) (by omega), w, if_neg (by omega), if_neg (by omega), if_neg (by omega), if_neg (by omega), if_pos ⟨rfl, rfl⟩]
  have uγ : Upd Pfl β (wI β 102 9 0) := Upd.refl.wI rfl
  obtain ⟨τ, t1, t2, t3⟩ := f165N hB (Nat.zero_le N) g8 g9
  have uτ : Upd Pfl β τ := uγ.trans (fl_go t2)
  have kτ : Kp c β τ := Kp_upd uτ kβ.1 (fun a k _ h => Pfl_no k h) (fun k hk => by
    unfold Pfl
    rw [anyF (fun b hb => by simp at hb; omega)]
    rfl)
  have xγ : mCx τ c C0 (-1) := mCx_fl uτ h115 xβ
  refine ⟨τ, ?_, ⟨t2.hasR hγR, rmB_upd t2 rfl (fun _ => rfl) hB, Nat.zero_le N, t3, (t2.2.1 102 12 rfl).trans g12, xγ, fun p hp => absurd hp (Nat.not_lt_zero p)⟩, kω.trans (kα.trans (kβ.trans kτ)), (t2.2.1 102 6 rfl).trans g6, (t2.2.1 102 0 rfl).trans g0, uτ.1.2.2.2.1.trans nβ, uτ.1.2.2.2.2.trans uβ⟩
  have hSγ : Sh (wI β 102 9 0) := hSβ
  have hSτ := t2.sh hSγ
  unfold f183
  simp only [acM hS, Option.bind_some]
  rw [if_neg (nI_pos (by omega))]
  show ((gI (th σ) 102 9 6).bind fun v2 => if nI N ≤ v2 then _ else f183_17 102 (th σ)) = _
  simp only [acM hS1, Option.bind_some, e6]
  rw [if_pos (nI_le hN (by omega))]
  have hSa : Sh (wI (th σ) 102 7 (nI N)) := hS
  have hSb : Sh (wI (wI (th σ) 102 7 (nI N)) 102 6 0) := hS
  have hSc : Sh (wI (wI (wI (th σ) 102 7 (nI N)) 102 6 0) 102 8 0) := hS
  show ((pI (th σ) 102 9 7 (nI N)).bind fun σ3 => _) = _
  simp only [acM hS1, acM hSa, acM hSb, acM hSc, Option.bind_some, hω]
  have nO8 : nO ω 8 = some (sNew ω 8 0 (xNF 8)) := rfl
  rw [nO8, Option.bind_some, hcω, a1, Option.bind_some, pα, Option.bind_some]
  simp only [acM hSβ, acM hSγ, Option.bind_some, t1, acM hSτ]
  rfl
end REF
