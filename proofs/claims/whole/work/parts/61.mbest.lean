/-! WHOM TO ASK: bestRow in the reference -/
theorem phV_pre {can b : Nat} : ∀ r k x, phV can b (k + r) x = true → phV can b k (x / b ^ r) = true := by
  intro r
  induction r with
  | zero => intro k x h; rw [Nat.pow_zero, Nat.div_one]; exact h
  | succ r ih =>
    intro k x h
    rw [show k + (r + 1) = (k + r) + 1 by omega, phV, Bool.and_eq_true] at h
    have := ih k (x / b) h.1
    rw [Nat.div_div_eq_div_mul] at this
    rw [Nat.pow_succ, Nat.mul_comm]
    exact this
section REF
variable {σ : xM} {c : Nat} {s : Sta} {C : Cty}
theorem phS_ok {p b : Nat} (hp : p < pe C) (hk : Ok (pe C) s) (hh : hr s ≤ 999) : ∀ k x, k ≤ 3 → phV (aska C s p) b k x = true → Ok (pe C) (phS C s p b k x) ∧ lv (phS C s p b k x) = lv s ∧ hr (phS C s p b k x) ≤ hr s + k := by
  intro k
  induction k with
  | zero => intro x _ _; exact ⟨hk, rfl, Nat.le_refl _⟩
  | succ k ih =>
    intro x h3 hv
    rw [phV, Bool.and_eq_true] at hv
    obtain ⟨a1, a2, a3⟩ := ih (x / b) (by omega) hv.1
    obtain ⟨b1, b2, b3⟩ := aG_ok hp a1 a2 (by omega) (vd_gd hk hv.2)
    exact ⟨b1, b2, by rw [phS]; omega⟩
/-- the digits of one code -/
theorem f225_78N (K : Nat → Int32 → Int32 → Int32 → Int32 → Int32 → Int32 → Int32 → xM → Option (Int32 × xM)) (hT : hasT σ c) (hM : mC σ c C) (hO : OkC C) (hk : Ok (pe C) s) (hh : hr s ≤ 999) {p n b code : Nat} (hp : p < pe C) (hn : n ≤ 3) (hb : b = pe C + 1) (hcode : code < 400) (A best : Int32) : ∀ (r k m : Nat) (τ : xM), k + r = n → r + 2 ≤ m → Upd P105 σ τ → phV (aska C s p) b k (code / b ^ r) = true → mrow (mI τ 105) (pe C) (phS C s p b k (code / b ^ r)) → ∃ τ' row' isv, f225_78 K m 102 (nI p) (nI n) (nI b) A (nI (aska C s p)) best (nI code) (nI (b ^ r)) (nI (phR b k (code / b ^ r))) 1 (nI k) τ = f225_153 K 102 (nI p) (nI n) (nI b) A (nI (aska C s p)) best (nI code) row' (bo isv) τ' ∧ Upd P105 σ τ' ∧ isv = phV (aska C s p) b n code ∧ (isv = true → row' = nI (phR b n code) ∧ mrow (mI τ' 105) (pe C) (phS C s p b n code)) := by
  have h6 := hk.1
  have hb7 : b ≤ 7 := by omega
  have hcan := aska_lt C s p
  intro r
  induction r with
  | zero =>
    intro k m τ hkr hm hu hv hx
    obtain ⟨m, rfl⟩ : ∃ i, m = i + 1 := ⟨m - 1, by omega⟩
    rw [Nat.pow_zero, Nat.div_one] at hv hx ⊢
    have hkn : k = n := by omega
    subst hkn
    refine ⟨τ, nI (phR b k code), true, ?_, hu, hv.symm, fun _ => ⟨rfl, hx⟩⟩
    rw [f225_78, if_pos (nI_le (Nat.le_refl _) (by omega))]
    rfl
  | succ r ih =>
    intro k m τ hkr hm hu hv hx
    obtain ⟨m, rfl⟩ : ∃ i, m = i + 2 := ⟨m - 2, by omega⟩
    have hbr : b ^ r ≤ 7 ^ 3 := Nat.le_trans (Nat.pow_le_pow_left hb7 r) (Nat.pow_le_pow_right (by decide) (by omega))
    have hbr1 : b ^ (r + 1) ≤ 7 ^ 3 := Nat.le_trans (Nat.pow_le_pow_left hb7 (r + 1)) (Nat.pow_le_pow_right (by decide) (by omega))
    have hbp : 0 < b ^ r := Nat.pow_pos (by omega)
    have e1 : b ^ (r + 1) / b = b ^ r := by rw [Nat.pow_succ]; exact Nat.mul_div_cancel _ (by omega)
    have e2 : code / b ^ (r + 1) = code / b ^ r / b := by rw [Nat.pow_succ, Nat.div_div_eq_div_mul]
    have h73 : (7 : Nat) ^ 3 = 343 := rfl
    rw [e2] at hv hx ⊢
    have hxl : code / b ^ r ≤ code := Nat.div_le_self _ _
    have hphR := phR_lt (b := b) (by omega) (by omega) k (code / b ^ r / b)
    have h10 : 10 ^ k ≤ 1000 := Nat.le_trans (Nat.pow_le_pow_right (by decide) (show k ≤ 3 by omega)) (by decide)
    have q1 : dI (nI (b ^ (r + 1))) (nI b) = some (nI (b ^ r)) := by rw [← e1]; exact dIN (by omega) (by omega) (by omega)
    have q2 : dI (nI code) (nI (b ^ r)) = some (nI (code / b ^ r)) := dIN (by omega) (by omega) (by omega)
    have q3 : rI (nI (code / b ^ r)) (nI b) = some (nI (code / b ^ r % b)) := rIN (by omega) (by omega) (by omega)
    have hd : code / b ^ r % b < b := Nat.mod_lt _ (by omega)
    generalize hx0 : code / b ^ r = x at hv hx q2 q3 hd hxl ih hphR ⊢
    have hrow : 10 * nI (phR b k (x / b)) + nI (x % b) = nI (phR b (k + 1) x) := by
      rw [show (10 : Int32) = nI 10 from rfl, pk_mul, nI_add]
      rfl
    have ih' := fun τ' hu' hv' hx' => ih (k + 1) (m + 1) τ' (by omega) (by omega) hu' hv' hx'
    rw [f225_78, if_neg (nI_ge (show k < n by omega) (by omega)), if_neg (by decide), q1, Option.bind_some, q2, Option.bind_some, q3, Option.bind_some, hrow]
    by_cases e3 : x % b = 0
    · rw [if_pos (by rw [e3]; rfl)]
      unfold f225_147
      rw [nI_1]
      refine ih' τ hu ?_ ?_
      · rw [phV, hv, e3]
        rfl
      · rw [phS, e3, aG_0]
        exact hx
    · rw [if_neg (nI_ne0 (by omega) (by omega))]
      unfold f225_122
      rw [show nI (x % b) - 1 = nI (x % b - 1) by
        obtain ⟨y, hy⟩ : ∃ y, x % b = y + 1 := ⟨x % b - 1, by omega⟩
        rw [hy, nI_pred]
        rfl, f157N hcan (show x % b - 1 < 6 by omega), Option.bind_some]
      have hvd : vd (aska C s p) (x % b) = tb (aska C s p) (x % b - 1) := by
        unfold vd
        rw [decide_eq_false e3, decide_eq_true (show x % b ≤ 6 by omega)]
        rfl
      simp only [bo_0]
      cases e4 : tb (aska C s p) (x % b - 1)
      · rw [if_pos rfl]
        unfold f225_147
        rw [nI_1, show bo false = 0 from rfl]
        refine ⟨τ, nI (phR b (k + 1) x), false, ?_, hu, ?_, fun h => by cases h⟩
        · rw [f225_78]
          by_cases e5 : n ≤ k + 1
          · rw [if_pos (nI_le e5 (by omega))]
            rfl
          · rw [if_neg (nI_ge (show k + 1 < n by omega) (by omega)), if_pos rfl]
            rfl
        · symm
          rw [Bool.eq_false_iff]
          intro hall
          have hpre := phV_pre (can := aska C s p) (b := b) r (k + 1) code (by rw [show k + 1 + r = n by omega]; exact hall)
          rw [hx0, phV, Bool.and_eq_true, hvd, e4] at hpre
          cases hpre.2
      · obtain ⟨o1, o2, o3, o4⟩ := aska_of e4
        have hT' := hu.hasT hT
        have hM' := mC_lo hu lo105 hT.2.1.1 hM
        obtain ⟨k1, k2, k3⟩ := phS_ok (b := b) hp hk hh k (x / b) (by omega) hv
        obtain ⟨υ, v1, v2, v3⟩ := f224N (C := C) ⟨hT', hM', hO, hx, k1⟩ hp (hk.lvn o3) o4
        have r1 : cO τ 102 9 = some () := by simp only [acM hT'.1]
        rw [if_neg (by simp), r1, Option.bind_some, v1, Option.bind_some, show bo true = 1 from rfl]
        unfold f225_147
        rw [nI_1]
        refine ih' υ (hu.trans v2) ?_ ?_
        · rw [phV, hv, hvd, e4]
          rfl
        · rw [phS]
          unfold aG
          rw [if_pos ⟨by omega, by omega⟩]
          exact v3
end REF
