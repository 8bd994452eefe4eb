/-! WHOM TO ASK: bestRow in the reference, all codes -/
def Pbr : Nat → Nat → Bool := fun a k => Nat.beq a 105 || (Pme a k || (Nat.beq a 102 && Nat.beq k 26))
theorem loBr : lo Pbr := fun a k ha => by
  unfold Pbr
  rw [loMe a k ha, beqF (show a ≠ 105 by omega), beqF (show a ≠ 102 by omega)]
  rfl
section REF
variable {σ : xM} {c : Nat} {s : Sta} {C : Cty}
theorem br_5 {τ : xM} (h : Upd P105 σ τ) : Upd Pbr σ τ := h.mono (fun a k hq => by
  unfold Pbr at hq
  rw [Bool.or_eq_false_iff] at hq
  exact hq.1)
theorem br_me {τ : xM} (h : Upd Pme σ τ) : Upd Pbr σ τ := h.mono (fun a k hq => by
  unfold Pbr at hq
  simp only [Bool.or_eq_false_iff] at hq
  exact hq.2.1)
theorem br_Q {τ : xM} (h : Upd Pbr σ τ) : Upd PmQ σ τ := h.mono (fun a k hq => by
  unfold PmQ at hq
  rw [Bool.or_eq_false_iff] at hq
  have g : ∀ b, b ∈ [105, 108, 109, 110, 111, 112, 113, 114] → a ≠ b := fun b hb h => by
    have := List.any_eq_false.mp hq.1 b hb
    rw [h] at this
    simp at this
  unfold Pbr Pme
  rw [beqF (g 105 (by simp)), beqF (g 108 (by simp)), beqF (g 109 (by simp))]
  rcases Bool.and_eq_false_iff.mp hq.2 with h2 | h2
  · rw [h2]; rfl
  · have h24 := List.any_eq_false.mp h2 24 (by simp)
    have h25 := List.any_eq_false.mp h2 25 (by simp)
    have h26 := List.any_eq_false.mp h2 26 (by simp)
    rw [beqF (show k ≠ 24 by simpa using h24), beqF (show k ≠ 25 by simpa using h25), beqF (show k ≠ 26 by simpa using h26)]
    simp)
def vmC (C : Cty) (s : Sta) (p b n code : Nat) : Nat := msN C (phS C s p b n code) p
def phB (b n : Nat) (o : Option Nat) : Int32 := match o with
  | none => 0
  | some k => nI (phR b n k)
theorem f225_54N (hT : hasT σ c) (hM : mC σ c C) (hO : OkC C) (hv : mrow (mI σ 104) (pe C) s) (hk : Ok (pe C) s) (hh : hr s ≤ 999) {p n b : Nat} (hp : p < pe C) (hpl : tb (lv s) p = true) (hn : n ≤ 3) (hb : b = pe C + 1) (h26 : mJ σ 102 26 = -1) : ∃ τ, f225_54 1100 102 (nI p) (nI n) (nI b) (nI (b ^ n)) (nI (aska C s p)) 0 0 σ = some (phB b n (riF (vmC C s p b n) (phV (aska C s p) b n) (b ^ n)), τ) ∧ Upd Pbr σ τ ∧ mJ τ 102 26 = roM (riF (vmC C s p b n) (phV (aska C s p) b n) (b ^ n)) (vmC C s p b n) := by
  have h6 := hk.1
  have hb7 : b ≤ 7 := by omega
  have hbn : b ^ n ≤ 343 := Nat.le_trans (Nat.pow_le_pow_left hb7 n) (Nat.le_trans (Nat.pow_le_pow_right (by decide) hn) (by decide))
  have hV : ∀ x, phV (aska C s p) b n x = true → vmC C s p b n x ≤ 594 * 1000000000000 := fun x hx => by
    obtain ⟨k1, k2, -⟩ := phS_ok (b := b) hp hk hh n x hn hx
    exact ms_le hO k1 (by rw [k2]; exact hpl)
  refine lpI (fun m j τ => f225_54 m 102 (nI p) (nI n) (nI b) (nI (b ^ n)) (nI (aska C s p)) (phB b n (riF (vmC C s p b n) (phV (aska C s p) b n) j)) (nI j) τ) (b ^ n) (fun j τ => Upd Pbr σ τ ∧ mJ τ 102 26 = roM (riF (vmC C s p b n) (phV (aska C s p) b n) j) (vmC C s p b n)) (fun o => ∃ τ, o = some (phB b n (riF (vmC C s p b n) (phV (aska C s p) b n) (b ^ n)), τ) ∧ Upd Pbr σ τ ∧ mJ τ 102 26 = roM (riF (vmC C s p b n) (phV (aska C s p) b n) (b ^ n)) (vmC C s p b n)) (fun j hj m τ hI => ?_) (fun m τ hI => ?_) (b ^ n) 1100 0 σ (by omega) (by omega) ⟨Upd.refl, h26⟩
  · obtain ⟨hu, h26'⟩ := hI
    have hT' := hu.hasT hT
    have hM' := mC_lo hu loBr hT.2.1.1 hM
    have hv' := row_upd (a := 104) hu (fun _ => rfl) hv
    have hA := wk_AM hT' hM' hO hv' hk
    have uw := br_5 (wk_upd (σ := τ))
    have hfw := f188N (σ := τ) hT'.1
    have h26w : mJ (wk τ) 102 26 = roM (riF (vmC C s p b n) (phV (aska C s p) b n) j) (vmC C s p b n) := (wk_upd.2.2 102 26 rfl).trans h26'
    have r1 : cO τ 102 9 = some () := by simp only [acM hT'.1]
    generalize wk τ = ω at hA uw hfw h26w
    have hb0 : ∀ k, riF (vmC C s p b n) (phV (aska C s p) b n) j = some k → vmC C s p b n k < 2 ^ 63 := fun k e => Nat.lt_of_le_of_lt (hV k (riF_iff.mp e).2.1) (by decide)
    show ∃ τ', _ ∧ f225_54 (m + 1) _ _ _ _ _ _ _ _ _ = f225_54 m _ _ _ _ _ _ _ _ _
    rw [f225_54, if_neg (nI_ge hj (by omega)), r1, Option.bind_some, hfw, Option.bind_some]
    have hin := f225_78N (f225_54 m) (σ := ω) (c := c) (C := C) (s := s) hA.1 hA.2.1 hO hk hh (n := n) (b := b) (code := j) hp hn hb (by omega) (nI (b ^ n)) (phB b n (riF (vmC C s p b n) (phV (aska C s p) b n) j)) n 0 1100 ω (by omega) (by omega) Upd.refl rfl hA.2.2.2.1
    rw [show phR b 0 (j / b ^ n) = 0 from rfl, nI_0] at hin
    obtain ⟨τ', row', isv, w1, w2, w3, w4⟩ := hin
    rw [w1]
    unfold f225_153 f225_191
    simp only [bo_0, nI_1]
    cases isv with
    | false =>
      have e2 : riF (vmC C s p b n) (phV (aska C s p) b n) (j + 1) = riF (vmC C s p b n) (phV (aska C s p) b n) j := by
        rw [riF, ← w3]
        rfl
      rw [if_pos rfl, e2]
      exact ⟨τ', ⟨hu.trans (uw.trans (br_5 w2)), (w2.2.2 102 26 rfl).trans h26w⟩, rfl⟩
    | true =>
      obtain ⟨x1, x2⟩ := w4 rfl
      obtain ⟨k1, k2, -⟩ := phS_ok (b := b) hp hk hh n j hn w3.symm
      have hT2 := w2.hasT hA.1
      have hM2 := mC_lo w2 lo105 hA.1.2.1.1 hA.2.1
      obtain ⟨υ, y1, y2, y3⟩ := f219N (C := C) (s := phS C s p b n j) ⟨hT2, hM2, hO, x2, k1⟩ hp
      have hTυ := y2.hasT hT2
      have r2 : cO τ' 102 9 = some () := by simp only [acM hT2.1]
      have r3 : gJ υ 102 9 26 = some (mJ υ 102 26) := by simp only [acM hTυ.1]
      have r4 : ∀ z, pJ υ 102 9 26 z = some (wJ υ 102 26 z) := fun z => by simp only [acM hTυ.1]
      have h26u : mJ υ 102 26 = roM (riF (vmC C s p b n) (phV (aska C s p) b n) j) (vmC C s p b n) := (y2.2.2 102 26 rfl).trans ((w2.2.2 102 26 rfl).trans h26w)
      have uυ : Upd Pbr σ υ := hu.trans (uw.trans ((br_5 w2).trans (br_me y2)))
      have hVj : vmC C s p b n j < 2 ^ 63 := Nat.lt_of_le_of_lt (hV j w3.symm) (by decide)
      rw [if_neg (by simp), r2, Option.bind_some, y1, Option.bind_some]
      simp only
      rw [r3, Option.bind_some, h26u, show msN C (phS C s p b n j) p = vmC C s p b n j from rfl, r4, Option.bind_some, riF, ← w3]
      simp only [lg_cmp_gt]
      cases e3 : riF (vmC C s p b n) (phV (aska C s p) b n) j with
      | none =>
        rw [if_pos (show roM none (vmC C s p b n) < lN (vmC C s p b n j) from Int64.not_le.mp (lN_m1 hVj)), x1]
        refine ⟨wJ υ 102 26 (lN (vmC C s p b n j)), ⟨uυ.wJ rfl, by rw [mJ_wJ, if_pos ⟨rfl, rfl⟩]; rfl⟩, rfl⟩
      | some k =>
        have hk' := hb0 k e3
        show ∃ τ'', _ ∧ (if lN (vmC C s p b n k) < lN (vmC C s p b n j) then _ else _) = _
        simp only [pk_lLT hk' hVj, mor, Bool.true_and]
        rw [e3] at h26u
        by_cases e4 : vmC C s p b n k < vmC C s p b n j
        · rw [if_pos e4, if_pos (by simpa using e4), x1]
          exact ⟨wJ υ 102 26 (lN (vmC C s p b n j)), ⟨uυ.wJ rfl, by rw [mJ_wJ, if_pos ⟨rfl, rfl⟩]; rfl⟩, rfl⟩
        · rw [if_neg e4, if_neg (by simpa using e4)]
          exact ⟨υ, ⟨uυ, h26u⟩, rfl⟩
  · obtain ⟨hu, h26'⟩ := hI
    refine ⟨τ, ?_, hu, h26'⟩
    show f225_54 (m + 1) _ _ _ _ _ _ _ _ _ = _
    rw [f225_54, if_pos (nI_le (by omega) (by omega))]
    rfl
end REF
