/-! THE REFERENCE: sums over nights; mean, odds, passes, catMean -/
section REF
variable {σ : xM} {c n : Nat} {s : Sta} {C : Cty}
/-- partOf -/
theorem f217N (hA : AM σ c C s) {t : Nat} (ht : t < 64) : f217 102 (nI t) σ = some (lN (paN C s t), σ) := by
  obtain ⟨hT, hM, hO, hx, hk⟩ := hA
  have h6 := hk.1
  unfold paN
  rw [pr_more (a := pe C) h6 (fun i a b => by rw [tb_lt hk.2.1 a]; rfl)]
  unfold f217
  refine lp (fun m j => f217_5 m 102 (nI t) (lN (pr (fun p => if tb (lv s) p then (if tb t p then dz C p else 100 - dz C p) else 1) j)) (nI j) σ) (pe C) (fun j hj m r hn => ?_) (fun m => ?_) (pe C) 1100 0 (by omega) (by omega)
  · have hj6 : j < 6 := by omega
    have hd := (hO.2.1 j hj).2.2
    simp only [pr] at hn
    show f217_5 (m + 1) _ _ _ _ _ = _
    unfold f217_5 f217_64 f217_66
    simp only [acM hT.1, acG hT, acT0 hT.2.1, acTa hT.2.1, Option.bind_some, hM.1.2.2.1, f190N hT.1 hx hk hj6, f157N ht hj6, bo_0, hj6, (hM.2.1 j hj).2.2, nI_1, show (100 : Int32) = nI 100 from rfl, pk_sub hd, nI_l (show 100 - dz C j < 2 ^ 31 by omega), nI_l (show dz C j < 2 ^ 31 by omega), lN_mul]
    rw [if_neg (nI_ge hj (by omega))]
    cases e1 : tb (lv s) j
    · simpa [e1] using hn
    · rw [if_neg (by simp)]
      cases e2 : tb t j
      · simpa [e1, e2] using hn
      · simpa [e1, e2] using hn
  · show f217_5 (m + 1) _ _ _ _ _ = _
    unfold f217_5 f217_72
    simp only [acG hT, acT0 hT.2.1, Option.bind_some, hM.1.2.2.1]
    rw [if_pos (nI_le (by omega) (by omega))]
def P25 : Nat → Nat → Bool := fun a k => Nat.beq a 102 && Nat.beq k 25
theorem lo25 : lo P25 := fun a k ha => by
  unfold P25
  rw [beqF (show a ≠ 102 by omega)]
  rfl
/-- wholeOf -/
theorem f218N (hA : AM σ c C s) : ∃ τ, f218 102 σ = some τ ∧ Upd P25 σ τ ∧ mJ τ 102 25 = lN (whN s) := by
  obtain ⟨hT, hM, hO, hx, hk⟩ := id hA
  have h6 := hk.1
  unfold whN
  rw [pr_more (a := pe C) h6 (fun i a b => by rw [tb_lt hk.2.1 a]; rfl)]
  unfold f218
  simp only [acM hT.1, Option.bind_some]
  refine lpI (fun m j τ => f218_7 m 102 (nI j) τ) (pe C) (fun j τ => Upd P25 σ τ ∧ mJ τ 102 25 = lN (pr (fun p => if tb (lv s) p then 100 else 1) j)) (fun o => ∃ τ, o = some τ ∧ Upd P25 σ τ ∧ mJ τ 102 25 = lN (pr (fun p => if tb (lv s) p then 100 else 1) (pe C))) (fun j hj m τ hI => ?_) (fun m τ hI => ?_) (pe C) 1100 0 _ (by omega) (by omega) ?_
  · obtain ⟨hu, hw⟩ := hI
    have hj6 : j < 6 := by omega
    obtain ⟨hT', hM', -, hx', -⟩ := AM_upd hu lo25 (fun _ => rfl) hA
    refine ⟨wJ τ 102 25 (lN (pr (fun p => if tb (lv s) p then 100 else 1) (j + 1))), ⟨hu.wJ rfl, by rw [mJ_wJ, if_pos ⟨rfl, rfl⟩]⟩, ?_⟩
    show f218_7 (m + 1) _ _ _ = f218_7 m _ _ _
    rw [f218_7]
    unfold f218_38
    simp only [acM hT'.1, acG hT', acT0 hT'.2.1, Option.bind_some, hM'.1.2.2.1, f190N hT'.1 hx' hk hj6, bo_0, hw, nI_1, show (1 : Int64) = lN 1 from rfl, show (100 : Int64) = lN 100 from rfl, lN_mul, pr]
    rw [if_neg (nI_ge hj (by omega))]
    cases e1 : tb (lv s) j
    · simp
    · simp
  · obtain ⟨hu, hw⟩ := hI
    obtain ⟨hT', hM', -, hx', -⟩ := AM_upd hu lo25 (fun _ => rfl) hA
    refine ⟨τ, ?_, hu, hw⟩
    show f218_7 (m + 1) _ _ _ = _
    unfold f218_7 f218_48
    simp only [acG hT', acT0 hT'.2.1, Option.bind_some, hM'.1.2.2.1]
    rw [if_pos (nI_le (by omega) (by omega))]
  · exact ⟨Upd.refl.wJ rfl, by rw [mJ_wJ, if_pos ⟨rfl, rfl⟩]; rfl⟩
theorem pa_le (hO : OkC C) (hk : Ok (pe C) s) (t : Nat) : paN C s t ≤ 1000000000000 := by
  unfold paN
  refine Nat.le_trans (pr_le (g := fun _ => 100) (fun i _ => ?_)) (by decide)
  split
  · rename_i h
    have := (hO.2.1 i (hk.lvn h)).2.2
    split <;> omega
  · omega
/-- sums over all sets end at the set of the living -/
theorem sm_lv {F : Nat → Nat} (hk : Ok n s) (h : ∀ t, t < 64 → lset s (nI t) = false → F t = 0) : sm F 64 = sm F (lv s + 1) := by
  have := hk.lv64
  refine sm_more (by omega) (fun t h1 h2 => h t h2 ?_)
  rw [Bool.eq_false_iff]
  intro hl
  have := sub_le ((lset_nI hk.lv64 h2).mp hl)
  omega
/-- meanOf's loop -/
theorem f219_13N (hA : AM σ c C s) (hH : mH σ (pe C) s) {p : Nat} (hp : p < pe C) : ∃ τ, f219_13 1100 102 (nI p) 0 0 σ = some (lN (msN C s p), τ) ∧ Upd Pdy σ τ := by
  obtain ⟨hT, hM, hO, hx, hk⟩ := id hA
  have h6 := hk.1
  have h64 := hk.lv64
  have e0 : msN C s p = sm (msQ C s p) (lv s + 1) := sm_lv hk (fun t _ h => by unfold msQ; rw [h]; rfl)
  rw [e0]
  refine lpI (fun m j τ => f219_13 m 102 (nI p) (lN (sm (msQ C s p) j)) (nI j) τ) (lv s + 1) (fun j τ => Upd Pdy σ τ) (fun o => ∃ τ, o = some (lN (sm (msQ C s p) (lv s + 1)), τ) ∧ Upd Pdy σ τ) (fun j hj m τ hI => ?_) (fun m τ hI => ?_) (lv s + 1) 1100 0 _ (by omega) (by omega) Upd.refl
  · have hA' := AM_dy hI hA
    obtain ⟨hT', hM', -, hx', -⟩ := id hA'
    have hj64 : j < 64 := by omega
    show ∃ τ', Upd Pdy σ τ' ∧ f219_13 (m + 1) _ _ _ _ _ = f219_13 m _ _ _ _ _
    have hc0 : ¬ nI (lv s) < nI j := nI_nlt (by omega) (by omega)
    by_cases e1 : nI j &&& (nI (lv s) ^^^ (-1)) = 0
    · have el : lset s (nI j) = true := decide_eq_true e1
      have hsub := (lset_nI h64 hj64).mp el
      have hpa := pa_le (s := s) hO hk j
      by_cases e2 : paN C s j = 0
      · refine ⟨τ, hI, ?_⟩
        rw [f219_13]
        unfold f219_80
        simp only [acM hT'.1, Option.bind_some, litM, show 42 < 47 by omega, hx'.2.2.1, f217N hA' hj64, lN_0' (show paN C s j < 2 ^ 63 by omega), nI_1]
        rw [if_neg hc0, if_pos e1, if_pos e2, sm, show msQ C s p j = 0 by unfold msQ; rw [el, e2]; simp]
        rfl
      · obtain ⟨υ, t1, t2, t3, t4⟩ := f195A hA' (mH_upd hI (fun _ => rfl) hH) hj64 hsub
        have hAυ := AM_dy t2 hA'
        have hB := hasB_le (p := p) hk hp hsub
        refine ⟨υ, hI.trans t2, ?_⟩
        rw [f219_13]
        unfold f219_80
        simp only [acM hT'.1, Option.bind_some, litM, show 42 < 47 by omega, hx'.2.2.1, f217N hA' hj64, lN_0' (show paN C s j < 2 ^ 63 by omega), nI_1, t1, acM hAυ.1.1, show p < 6 by omega, t3 p hp, nI_l (show hasB s j p < 2 ^ 31 by omega), lN_mul, lN_add]
        rw [if_neg hc0, if_pos e1, if_neg e2, sm, show msQ C s p j = paN C s j * hasB s j p by unfold msQ; rw [el]; rfl]
    · have el : lset s (nI j) = false := decide_eq_false e1
      refine ⟨τ, hI, ?_⟩
      rw [f219_13]
      unfold f219_80
      simp only [acM hT'.1, Option.bind_some, litM, show 42 < 47 by omega, hx'.2.2.1, nI_1]
      rw [if_neg hc0, if_neg e1, sm, show msQ C s p j = 0 by unfold msQ; rw [el]; rfl]
      rfl
  · have hA' := AM_dy hI hA
    obtain ⟨hT', hM', -, hx', -⟩ := id hA'
    refine ⟨τ, ?_, hI⟩
    show f219_13 (m + 1) _ _ _ _ _ = _
    unfold f219_13 f219_86
    simp only [acM hT'.1, Option.bind_some, litM, show 42 < 47 by omega, hx'.2.2.1]
    rw [if_pos (nI_lt (by omega) (by omega))]
/-- what meanOf writes -/
def Pme : Nat → Nat → Bool := fun a k => Nat.beq a 108 || (Nat.beq a 109 || (Nat.beq a 102 && (Nat.beq k 24 || Nat.beq k 25)))
theorem loMe : lo Pme := fun a k ha => by
  unfold Pme
  rw [beqF (show a ≠ 102 by omega), beqF (show a ≠ 108 by omega), beqF (show a ≠ 109 by omega)]
  rfl
theorem me_8 {τ : xM} (h : Upd P108 σ τ) : Upd Pme σ τ := h.mono (fun a k hq => by
  unfold Pme at hq
  rw [Bool.or_eq_false_iff] at hq
  exact hq.1)
theorem me_25 {τ : xM} (h : Upd P25 σ τ) : Upd Pme σ τ := h.mono (fun a k hq => by
  unfold Pme at hq
  simp only [Bool.or_eq_false_iff, Bool.and_eq_false_iff] at hq
  unfold P25
  rcases hq.2.2 with h2 | h2
  · rw [h2]; rfl
  · rw [h2.2, Bool.and_false])
theorem me_dy {τ : xM} (h : Upd Pdy σ τ) : Upd Pme σ τ := h.mono (fun a k hq => by
  unfold Pme at hq
  simp only [Bool.or_eq_false_iff, Bool.and_eq_false_iff] at hq
  unfold Pdy
  rw [hq.2.1, Bool.false_or]
  rcases hq.2.2 with h2 | h2
  · rw [h2]; rfl
  · rw [h2.1, Bool.and_false])
theorem me_Q {τ : xM} (h : Upd Pme σ τ) : Upd PmQ σ τ := h.mono (fun a k hq => by
  unfold PmQ at hq
  rw [Bool.or_eq_false_iff] at hq
  have h8 := List.any_eq_false.mp hq.1 108 (by simp)
  have h9 := List.any_eq_false.mp hq.1 109 (by simp)
  unfold Pme
  rw [beqF (show a ≠ 108 by simpa using h8), beqF (show a ≠ 109 by simpa using h9), Bool.false_or, Bool.false_or]
  rcases Bool.and_eq_false_iff.mp hq.2 with h2 | h2
  · rw [h2]; rfl
  · have h24 := List.any_eq_false.mp h2 24 (by simp)
    have h25 := List.any_eq_false.mp h2 25 (by simp)
    rw [beqF (show k ≠ 24 by simpa using h24), beqF (show k ≠ 25 by simpa using h25)]
    simp)
/-- meanOf -/
theorem f219N (hA : AM σ c C s) {p : Nat} (hp : p < pe C) : ∃ τ, f219 102 (nI p) σ = some (lN (msN C s p), τ) ∧ Upd Pme σ τ ∧ mJ τ 102 25 = lN (whN s) := by
  obtain ⟨hT, hM, hO, hx, hk⟩ := id hA
  have hA1 : AM (hsW σ (pe C) s) c C s := AM_upd hsW_upd lo108 (fun _ => rfl) hA
  obtain ⟨τ, t1, t2, t3⟩ := f218N hA1
  have hA2 : AM τ c C s := AM_upd t2 lo25 (fun _ => rfl) hA1
  obtain ⟨υ, u1, u2⟩ := f219_13N hA2 (mH_upd t2 (fun _ => rfl) hsW_H) hp
  refine ⟨υ, ?_, (me_8 hsW_upd).trans ((me_25 t2).trans (me_dy u2)), (u2.2.2 102 25 rfl).trans t3⟩
  unfold f219
  simp only [acM hT.1, Option.bind_some, f193N hT hM.1.2.2.1 hx hk, acM hA1.1.1, t1]
  exact u1
/-- common -/
theorem f159_6N (σ : xM) : ∀ (k m x y : Nat), k + 1 ≤ m → x < 2 ^ 63 → y < 2 ^ k → y < 2 ^ 63 → f159_6 (2 * m) (lN x) (lN y) σ = some (lN (Nat.gcd x y), σ) := by
  intro k
  induction k with
  | zero =>
    intro m x y hm hx hy hy2
    obtain ⟨m, rfl⟩ : ∃ k, m = k + 1 := ⟨m - 1, by omega⟩
    have : y = 0 := by simp at hy; exact hy
    rw [show 2 * (m + 1) = (2 * m + 1) + 1 by omega]
    unfold f159_6 f159_31
    rw [if_pos (by rw [lN_0' hy2]; exact this), this, Nat.gcd_zero_right]
  | succ k ih =>
    intro m x y hm hx hy hy2
    obtain ⟨m, rfl⟩ : ∃ k, m = k + 1 := ⟨m - 1, by omega⟩
    rw [show 2 * (m + 1) = (2 * m + 1) + 1 by omega]
    unfold f159_6 f159_31
    simp only [lN_0' hy2]
    by_cases e : y = 0
    · rw [if_pos e, e, Nat.gcd_zero_right]
    · have hg : Nat.gcd x y = Nat.gcd y (x % y) := by
        rw [Nat.gcd_comm x y, Nat.gcd_rec y x, Nat.gcd_comm]
      have h1 : x % y < y := Nat.mod_lt _ (by omega)
      rw [if_neg e, rJN hx e hy2, Option.bind_some, f159_6]
      unfold f159_31
      simp only [lN_0' (show x % y < 2 ^ 63 by omega)]
      by_cases e2 : x % y = 0
      · rw [if_pos e2, hg, e2, Nat.gcd_zero_right]
      · have h2 : y % (x % y) < x % y := Nat.mod_lt _ (by omega)
        have h3 : y % (x % y) + (x % y) ≤ y := by
          have h4 := Nat.div_add_mod y (x % y)
          have h5 : 1 ≤ y / (x % y) := (Nat.one_le_div_iff (by omega)).mpr (by omega)
          have h6 : (x % y) * 1 ≤ (x % y) * (y / (x % y)) := Nat.mul_le_mul_left _ h5
          omega
        rw [if_neg e2, rJN hy2 e2 (by omega), Option.bind_some, ih m (x % y) (y % (x % y)) (by omega) (by omega) (by rw [Nat.pow_succ] at hy; omega) (by omega), hg, Nat.gcd_comm y (x % y), Nat.gcd_rec (x % y) y, Nat.gcd_comm (y % (x % y))]
/-- fraction -/
theorem f160N (hS : Sh σ) {m w : Nat} (hm : m < 2 ^ 63) (hw : w < 2 ^ 60) (hw0 : 0 < w) (b : Int32) : f160 102 (lN m) (lN w) b σ = some (lN (fra m w b), gd σ 0) := by
  have hg0 : Nat.gcd m w ≠ 0 := fun h => by
    have := Nat.eq_zero_of_gcd_eq_zero_right h
    omega
  have hg1 : Nat.gcd m w < 2 ^ 63 := Nat.lt_of_le_of_lt (Nat.le_of_dvd hw0 (Nat.gcd_dvd_right _ _)) (by omega)
  have h1 : ∀ τ, f159 (lN m) (lN w) τ = some (lN (Nat.gcd m w), τ) := fun τ => f159_6N τ 60 550 m w (by omega) hm hw (by omega)
  unfold f160 f160_16 fra
  simp only [acM hS, Option.bind_some, f154N hS, h1, dJN hm hg0 hg1, dJN (show w < 2 ^ 63 by omega) hg0 hg1]
  by_cases e : b = 0
  · rw [if_pos e, if_pos e]
  · rw [if_neg e, if_neg e]
end REF
