/-! THE WORLD: what both sides bear, and what a pair of calls does to it -/
def CW (σ : xM) (C : Cty) (s : Sta) (ps : Nat → Sta) (na : Nat) (im : Nat → Sta) (ni n : Nat) (f : Nat → Int32) (r ft wh : Int32) : Prop := QC σ C s ∧ cSc σ C ∧ cP σ (pe C) ps na ∧ cI σ (pe C) im ni ∧ cTp σ n f ∧ mI σ 0 8 = r ∧ mI σ 0 9 = ft ∧ (r = 4 → mI σ 1 1 = wh)
def MW (σ : xM) (C : Cty) (s : Sta) (ps : Nat → Sta) (na : Nat) (im : Nat → Sta) (ni n : Nat) (f : Nat → Int32) (r ft wh : Int32) : Prop := QM σ C s ∧ mP σ (pe C) ps na ∧ mIm σ (pe C) im ni ∧ mTp σ n f ∧ mI σ 102 1 = r ∧ mI σ 102 12 = ft ∧ mI σ 102 2 = wh
def OW (C : Cty) (s : Sta) (ps : Nat → Sta) (na : Nat) (im : Nat → Sta) (ni n : Nat) (f : Nat → Int32) (r wh : Int32) : Prop := OkH C ∧ (pe C = 0 → zer C s na ni) ∧ hr s ≤ 999 ∧ (∀ i, i < na → hr (ps i) ≤ 999 ∧ Ok (pe C) (ps i)) ∧ (∀ i, i < ni → hr (im i) ≤ 999 ∧ Ok (pe C) (im i)) ∧ (∀ i, i < n → okB (f i)) ∧ (r ≠ 4 → wh = -1)
def Wd (σ : xM) : Prop := ∃ C s ps na im ni n f r ft wh, CW σ C s ps na im ni n f r ft wh ∧ MW σ C s ps na im ni n f r ft wh ∧ OW C s ps na im ni n f r wh
/-- a call of the class, then the same call of the reference -/
def Two {α : Type} (F G : xM → Option (α × xM)) (σ : xM) : Prop := ∃ a τ υ, F σ = some (a, τ) ∧ G τ = some (a, υ) ∧ (mN τ = mN σ ∧ mU τ = mU σ) ∧ (mN τ ≤ mN υ ∧ mN υ ≤ mN τ + 11 ∧ mU υ ≤ mU τ + 98) ∧ Wd υ
-- ===== the other side's frame
def Frc (σ τ : xM) : Prop := Sh τ ∧ ∀ a, a < 102 → mI τ a = mI σ a
def Frm (σ τ : xM) : Prop := Sh τ ∧ mN σ ≤ mN τ ∧ ∀ a, 102 ≤ a → a < mN σ → mK τ a = mK σ a ∧ mL τ a = mL σ a ∧ mR τ a = mR σ a ∧ mI τ a = mI σ a
theorem cS_fr {σ τ : xM} {a n : Nat} {s : Sta} (h : Frc σ τ) (ha : a + 2 < 102) (hc : cS σ a n s) : cS τ a n s := by
  unfold cS
  rw [h.2 a (by omega), h.2 (a + 1) (by omega), h.2 (a + 2) (by omega)]
  exact hc
theorem cC_fr {σ τ : xM} {b : Nat} {C : Cty} (h : Frc σ τ) (hb : b + 10 < 102) (hc : cC σ b C) : cC τ b C := by
  unfold cC
  rw [h.2 b (by omega), h.2 (b + 1) (by omega), h.2 (b + 2) (by omega), h.2 (b + 3) (by omega), h.2 (b + 4) (by omega), h.2 (b + 5) (by omega), h.2 (b + 6) (by omega), h.2 (b + 8) (by omega), h.2 (b + 9) (by omega), h.2 (b + 10) (by omega)]
  exact hc
section WLD
variable {σ τ : xM} {C : Cty} {s : Sta} {ps im : Nat → Sta} {na ni n : Nat} {f : Nat → Int32} {r ft wh : Int32}
theorem CW_fr (h : Frc σ τ) (hW : CW σ C s ps na im ni n f r ft wh) : CW τ C s ps na im ni n f r ft wh := by
  obtain ⟨⟨q1, q2, q3, q4, q5⟩, h2, ⟨p1, p2, nx, p3, p4, p5⟩, ⟨i1, i2, i3⟩, h5, h6, h7, h8⟩ := hW
  have e : ∀ a k, a < 102 → mI τ a k = mI σ a k := fun a k ha => by rw [h.2 a ha]
  refine ⟨⟨h.1, ?_, cS_fr h (by omega) q3, q4, fun hp => ?_⟩, ?_, ⟨p1, ?_, nx, p3, ?_, fun i hi => cS_fr h (by omega) (p5 i hi)⟩, ⟨i1, ?_, fun i hi => cS_fr h (by omega) (i3 i hi)⟩, ?_, ?_, ?_, fun hr => ?_⟩
  · rw [e 15 2 (by omega)]; exact q2
  · obtain ⟨x1, x2, x3⟩ := q5 hp
    exact ⟨cC_fr h (by omega) x1, x2, fun i hi => (e 22 i (by omega)).trans (x3 i hi)⟩
  · unfold cSc
    rw [h.2 15 (by omega)]
    exact h2
  · rw [e 32 0 (by omega)]; exact p2
  · rw [e 32 2 (by omega)]; exact p4
  · rw [e 32 1 (by omega)]; exact i2
  · unfold cTp
    rw [h.2 1 (by omega), h.2 13 (by omega)]
    exact h5
  · rw [e 0 8 (by omega)]; exact h6
  · rw [e 0 9 (by omega)]; exact h7
  · rw [e 1 1 (by omega)]; exact h8 hr
theorem ShT_fr {c : Nat} (h : Frm σ τ) (hT : ShT σ c) : ShT τ c := by
  obtain ⟨h1, h2, h3, h4, h5, h6, h7, h8, h9, ha, hb⟩ := hT
  obtain ⟨a0, a1, a2⟩ := h
  have e0 := a2 c (by omega) (by omega)
  have eR : ∀ k, mR τ c k = mR σ c k := fun k => by rw [e0.2.2.1]
  have ek : ∀ i, i ≤ 10 → mK τ (c + i) = mK σ (c + i) := fun i hi => (a2 (c + i) (by omega) (by omega)).1
  have el : ∀ i, i ≤ 10 → mL τ (c + i) = mL σ (c + i) := fun i hi => (a2 (c + i) (by omega) (by omega)).2.1
  refine ⟨h1, by omega, e0.1.trans h3, fun i hi => ⟨(eR _).trans (h4 i hi).1, (ek _ (by omega)).trans (h4 i hi).2⟩, ⟨(eR _).trans h5.1, (ek _ (by omega)).trans h5.2⟩, fun i hi => (el _ (by omega)).trans (h6 i hi), (el _ (by omega)).trans h7, (el _ (by omega)).trans h8, (el _ (by omega)).trans h9, (el _ (by omega)).trans ha, (el _ (by omega)).trans hb⟩
theorem MW_fr (h : Frm σ τ) (hW : MW σ C s ps na im ni n f r ft wh) : MW τ C s ps na im ni n f r ft wh := by
  obtain ⟨⟨q1, q2, q3, q4⟩, h2, h3, h4, h5⟩ := hW
  have h115 := q1.1
  have e : ∀ a, 102 ≤ a → a < 115 → mI τ a = mI σ a := fun a h1 h2 => (h.2.2 a h1 (by omega)).2.2.2
  have eR : mR τ 102 = mR σ 102 := (h.2.2 102 (by omega) (by omega)).2.2.1
  refine ⟨⟨h.1, q2, ?_, ?_⟩, ?_, ?_, ?_, ?_⟩
  · rw [e 104 (by omega) (by omega)]; exact q3
  · rcases q4 with ⟨z1, z2⟩ | ⟨z1, z2, c, ⟨z3, z4, z5⟩, z6⟩
    · exact Or.inl ⟨z1, by rw [eR]; exact z2⟩
    · refine Or.inr ⟨z1, z2, c, ⟨h.1, ShT_fr h z4, by rw [eR]; exact z5⟩, ?_⟩
      have b1 := z4.1
      have b2 := z4.2.1
      have g : ∀ i, i ≤ 10 → mI τ (c + i) = mI σ (c + i) := fun i hi => (h.2.2 (c + i) (by omega) (by omega)).2.2.2
      have g0 : mI τ c = mI σ c := g 0 (by omega)
      unfold mC
      rw [g0, g 1 (by omega), g 2 (by omega), g 3 (by omega), g 4 (by omega), g 5 (by omega), g 6 (by omega), g 7 (by omega), g 8 (by omega), g 9 (by omega)]
      exact z6
  · unfold mP
    rw [e 102 (by omega) (by omega), e 106 (by omega) (by omega)]
    exact h2
  · unfold mIm
    rw [e 102 (by omega) (by omega), e 107 (by omega) (by omega)]
    exact h3
  · unfold mTp
    rw [e 102 (by omega) (by omega), e 103 (by omega) (by omega)]
    exact h4
  · rw [e 102 (by omega) (by omega)]
    exact h5
theorem Frm_upd {P : Nat → Nat → Bool} (hS : Sh σ) (h : Upd P σ τ) (hP : ∀ a k, 102 ≤ a → P a k = false) : Frm σ τ := by
  have hS' := h.sh hS
  obtain ⟨⟨a1, a2, a3, a4, -⟩, b1, b2⟩ := h
  exact ⟨hS', by omega, fun a ha _ => ⟨by rw [a1], by rw [a2], by rw [a3], funext (fun k => b1 a k (hP a k ha))⟩⟩
theorem Frc_upd {P : Nat → Nat → Bool} (hS : Sh σ) (h : Upd P σ τ) (hP : ∀ a k, a < 102 → P a k = false) : Frc σ τ := ⟨h.sh hS, fun a ha => funext (fun k => h.2.1 a k (hP a k ha))⟩
theorem PcQ_hi (a k : Nat) (ha : 102 ≤ a) : PcQ a k = false := by
  unfold PcQ
  rw [anyF (fun b hb => by simp at hb; omega), beqF (show a ≠ 0 by omega)]
  rfl
theorem PcA_hi (a k : Nat) (ha : 102 ≤ a) : PcA a k = false := by
  unfold PcA
  have : Nat.ble a 101 = false := by rw [Bool.eq_false_iff]; intro h; rw [Nat.ble_eq] at h; omega
  rw [PcQ_hi a k ha, this]
  simp
theorem PmA_lo (a k : Nat) (ha : a < 102) : PmA a k = false := by
  unfold PmA PmQ
  rw [anyF (fun b hb => by simp at hb; omega), beqF (show a ≠ 102 by omega), beqF (show a ≠ 104 by omega), beqF (show a ≠ 106 by omega), beqF (show a ≠ 107 by omega)]
  rfl
theorem A_mQ (h : Upd PmQ σ τ) : Upd PmA σ τ := h.mono (fun a k hq => by
  unfold PmA at hq
  rw [Bool.or_eq_false_iff] at hq
  exact hq.1)
/-- a call that asks -/
theorem Q_twoW {α : Type} {F G : xM → Option (α × xM)} {a : α × Int32} (hC : CW σ C s ps na im ni n f r ft wh) (hM : MW σ C s ps na im ni n f r ft wh) (hO : OW C s ps na im ni n f r wh) (h4 : a.2 ≠ 4) (hF : QC σ C s → cQ σ (F σ) a) (hG : ∀ τ, MW τ C s ps na im ni n f r ft wh → mQ τ (G τ) a) : Two F G σ := by
  obtain ⟨o1, o2, o3, o4, o5, o6, o7⟩ := hO
  have hS := hC.1.1
  obtain ⟨τ, t1, t2, t3⟩ := hF hC.1
  have fm := Frm_upd hS t2 PcQ_hi
  have hM1 := MW_fr fm hM
  obtain ⟨υ, u1, u2, u3, u4, u5⟩ := hG τ hM1
  have fc := Frc_upd hM1.1.1 (A_mQ u2) PmA_lo
  have hC1 : CW τ C s ps na im ni n f a.2 ft (-1) := by
    obtain ⟨⟨q1, q2, q3, q4, q5⟩, h2, h3, h4', h5, h6, h7, h8⟩ := hC
    have e : ∀ b k, PcQ b k = false → mI τ b k = mI σ b k := t2.2.1
    refine ⟨⟨t2.sh hS, (e 15 2 rfl).trans q2, cS_upd t2 (fun _ => rfl) (fun _ => rfl) (fun _ => rfl) q3, q4, fun hp => ?_⟩, ?_, cP_upd t2 (fun b k hb => ?_) h3, cI_upd t2 (fun b k hb => ?_) h4', ⟨h5.1, (e 1 0 rfl).trans h5.2.1, fun i hi => (e 13 i rfl).trans (h5.2.2 i hi)⟩, t3, (e 0 9 rfl).trans h7, fun hr => absurd hr h4⟩
    · obtain ⟨x1, x2, x3⟩ := q5 hp
      refine ⟨cC_upd t2 (fun i k hi => ?_) x1, x2, fun i hi => (e 22 i rfl).trans (x3 i hi)⟩
      unfold PcQ
      rw [anyF (fun b hb => by simp at hb; omega), beqF (show 15 + i ≠ 0 by omega)]
      rfl
    · exact ⟨(e 15 0 rfl).trans h2.1, (e 15 1 rfl).trans h2.2.1, (e 15 2 rfl).trans h2.2.2.1, (e 15 3 rfl).trans h2.2.2.2.1, (e 15 4 rfl).trans h2.2.2.2.2.1, (e 15 5 rfl).trans h2.2.2.2.2.2.1, (e 15 6 rfl).trans h2.2.2.2.2.2.2⟩
    · unfold PcQ
      rw [anyF (fun c hc => by simp at hc; omega), beqF (show b ≠ 0 by omega)]
      rfl
    · unfold PcQ
      rw [anyF (fun c hc => by simp at hc; omega), beqF (show b ≠ 0 by omega)]
      rfl
  have hM2 : MW υ C s ps na im ni n f a.2 ft (-1) := by
    obtain ⟨⟨q1, q2, q3, q4⟩, h2, h3, h4', h5, h6, h7⟩ := hM1
    have e : ∀ b k, PmQ b k = false → mI υ b k = mI τ b k := u2.2.1
    refine ⟨⟨u2.sh q1, q2, row_upd u2 (fun _ => rfl) q3, ?_⟩, mP_upd u2 rfl (fun _ => rfl) h2, mIm_upd u2 rfl (fun _ => rfl) h3, ⟨h4'.1, (e 102 6 rfl).trans h4'.2.1, fun i hi => (e 103 i rfl).trans (h4'.2.2 i hi)⟩, u3, (e 102 12 rfl).trans h6, u4⟩
    rcases q4 with ⟨z1, z2⟩ | ⟨z1, z2, c, z3, z6⟩
    · exact Or.inl ⟨z1, by rw [u2.1.2.2.1]; exact z2⟩
    · exact Or.inr ⟨z1, z2, c, u2.hasT z3, mC_lo u2 loQ z3.2.1.1 z6⟩
  exact ⟨a.1, τ, υ, t1, u1, ⟨t2.1.2.2.2.1, t2.1.2.2.2.2⟩, ⟨by rw [u2.1.2.2.2.1]; omega, by rw [u2.1.2.2.2.1]; omega, by rw [u2.1.2.2.2.2]; omega⟩, C, s, ps, na, im, ni, n, f, a.2, ft, -1, CW_fr fc hC1, hM2, o1, o2, o3, o4, o5, o6, fun _ => rfl⟩
theorem Q_two {α : Type} {F G : xM → Option (α × xM)} {a : α × Int32} (hC : CW σ C s ps na im ni n f r ft wh) (hM : MW σ C s ps na im ni n f r ft wh) (hO : OW C s ps na im ni n f r wh) (h4 : a.2 ≠ 4) (hF : QC σ C s → cQ σ (F σ) a) (hG : ∀ τ, QM τ C s → mQ τ (G τ) a) : Two F G σ := Q_twoW hC hM hO h4 hF (fun τ h => hG τ h.1)
end WLD
