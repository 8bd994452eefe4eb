/-! MATHEMATICS of rows: sorted rows suffice -/
def ro3 (a b c : Nat) : Nat := 100 * a + 10 * b + c
theorem ro3_d {a b c : Nat} (ha : a < 10) (hb : b < 10) (hc : c < 10) : ro3 a b c / 100 % 10 = a ∧ ro3 a b c / 10 % 10 = b ∧ ro3 a b c % 10 = c := by
  unfold ro3
  omega
theorem vd_10 {can d : Nat} (h : vd can d = true) : d < 10 := by
  unfold vd at h
  rw [Bool.or_eq_true, Bool.and_eq_true, decide_eq_true_eq, decide_eq_true_eq] at h
  omega
section ORDER
variable {C : Cty} {s : Sta} {p : Nat}
theorem roV_3 {a b c : Nat} (ha : a < 10) (hb : b < 10) (hc : c < 10) : roV C s p (ro3 a b c) = meN C (aG C p (aG C p (aG C p s a) b) c) p := by
  obtain ⟨h1, h2, h3⟩ := ro3_d ha hb hc
  unfold roV rowS
  rw [h1, h2, h3]
theorem sw1 (hp : p < pe C) (hk : Ok (pe C) s) (hh : hr s ≤ 999) {a b c : Nat} (ga : vd (aska C s p) a = true) (gb : vd (aska C s p) b = true) (gc : vd (aska C s p) c = true) : roV C s p (ro3 a b c) = roV C s p (ro3 b a c) := by
  have da := vd_gd hk ga
  have db := vd_gd hk gb
  have dc := vd_gd hk gc
  rw [roV_3 (vd_10 ga) (vd_10 gb) (vd_10 gc), roV_3 (vd_10 gb) (vd_10 ga) (vd_10 gc)]
  obtain ⟨k1, l1, r1⟩ := aG_ok hp hk rfl (by omega) da
  obtain ⟨k2, l2, r2⟩ := aG_ok hp k1 l1 (by omega) db
  obtain ⟨k3, l3, r3⟩ := aG_ok hp hk rfl (by omega) db
  obtain ⟨k4, l4, r4⟩ := aG_ok hp k3 l3 (by omega) da
  exact me_alk (alk_aG hp hk k2 k4 l2 (alk_aG2 hp hk rfl (by omega) da db) dc)
theorem sw2 (hp : p < pe C) (hk : Ok (pe C) s) (hh : hr s ≤ 999) {a b c : Nat} (ga : vd (aska C s p) a = true) (gb : vd (aska C s p) b = true) (gc : vd (aska C s p) c = true) : roV C s p (ro3 a b c) = roV C s p (ro3 a c b) := by
  have da := vd_gd hk ga
  have db := vd_gd hk gb
  have dc := vd_gd hk gc
  rw [roV_3 (vd_10 ga) (vd_10 gb) (vd_10 gc), roV_3 (vd_10 ga) (vd_10 gc) (vd_10 gb)]
  obtain ⟨k1, l1, r1⟩ := aG_ok hp hk rfl (by omega) da
  exact me_alk (alk_aG2 hp k1 l1 (by omega) db dc)
theorem mb3 {can a b c : Nat} (ga : vd can a = true) (gb : vd can b = true) (gc : vd can c = true) (h1 : a ≤ b) (h2 : b ≤ c) : mbF can (ro3 a b c) = true := by
  obtain ⟨e1, e2, e3⟩ := ro3_d (vd_10 ga) (vd_10 gb) (vd_10 gc)
  unfold mbF vrow
  rw [e1, e2, e3, ga, gb, gc, decide_eq_true h1, decide_eq_true h2]
  rfl
theorem srt (hp : p < pe C) (hk : Ok (pe C) s) (hh : hr s ≤ 999) {r : Nat} (hr : r < 1000) (hv : vrow (aska C s p) r = true) : ∃ i, i ≤ r ∧ mbF (aska C s p) i = true ∧ roV C s p i = roV C s p r := by
  obtain ⟨a, ha⟩ : ∃ a, a = r / 100 % 10 := ⟨_, rfl⟩
  obtain ⟨b, hb⟩ : ∃ b, b = r / 10 % 10 := ⟨_, rfl⟩
  obtain ⟨c, hc⟩ : ∃ c, c = r % 10 := ⟨_, rfl⟩
  have e : r = ro3 a b c := by unfold ro3; omega
  unfold vrow at hv
  rw [← ha, ← hb, ← hc] at hv
  simp only [Bool.and_eq_true] at hv
  obtain ⟨ga, gb, gc⟩ := hv
  have a10 := vd_10 ga
  have b10 := vd_10 gb
  have c10 := vd_10 gc
  rw [e]
  by_cases h1 : a ≤ b
  · by_cases h2 : b ≤ c
    · exact ⟨_, Nat.le_refl _, mb3 ga gb gc h1 h2, rfl⟩
    · by_cases h3 : a ≤ c
      · exact ⟨ro3 a c b, by unfold ro3; omega, mb3 ga gc gb h3 (by omega), (sw2 hp hk hh ga gb gc).symm⟩
      · refine ⟨ro3 c a b, by unfold ro3; omega, mb3 gc ga gb (by omega) h1, ?_⟩
        rw [sw2 hp hk hh ga gb gc, sw1 hp hk hh ga gc gb]
  · by_cases h2 : a ≤ c
    · exact ⟨ro3 b a c, by unfold ro3; omega, mb3 gb ga gc (by omega) h2, (sw1 hp hk hh ga gb gc).symm⟩
    · by_cases h3 : b ≤ c
      · refine ⟨ro3 b c a, by unfold ro3; omega, mb3 gb gc ga h3 (by omega), ?_⟩
        rw [sw1 hp hk hh ga gb gc, sw2 hp hk hh gb ga gc]
      · refine ⟨ro3 c b a, by unfold ro3; omega, mb3 gc gb ga (by omega) (by omega), ?_⟩
        rw [sw1 hp hk hh ga gb gc, sw2 hp hk hh gb ga gc, sw1 hp hk hh gb gc ga]
/-- the class's best row is that of all rows -/
theorem best_all (hp : p < pe C) (hk : Ok (pe C) s) (hh : hr s ≤ 999) {n : Nat} (hn : n ≤ 3) : riF (roV C s p) (vrow (aska C s p)) (10 ^ n) = riF (roV C s p) (mbF (aska C s p)) (10 ^ n) := by
  have h3 : 10 ^ n ≤ 10 ^ 3 := Nat.pow_le_pow_right (by decide) hn
  refine riF_few (fun i _ h => ?_) (fun i hi h => ?_)
  · unfold mbF at h
    rw [Bool.and_eq_true] at h
    exact h.1
  · exact srt hp hk hh (by omega) h
/-- scaled values are compared alike -/
theorem riF_scale {v w : Nat → Nat} {c : Nat → Bool} {r : Nat} (hr : 0 < r) {N : Nat} (h : ∀ i, i < N → c i = true → v i * r = w i) : riF v c N = riF w c N := by
  cases e : riF v c N with
  | some k =>
    obtain ⟨a1, a2, a3⟩ := riF_iff.mp e
    refine (riF_iff.mpr ⟨a1, a2, fun i hi hc => ?_⟩).symm
    rw [← h i hi hc, ← h k a1 a2]
    rcases a3 i hi hc with h1 | ⟨h1, h2⟩
    · exact Or.inl (Nat.mul_lt_mul_of_pos_right h1 hr)
    · exact Or.inr ⟨by rw [h1], h2⟩
  | none =>
    cases e2 : riF w c N with
    | none => rfl
    | some k =>
      obtain ⟨a1, a2, -⟩ := riF_iff.mp e2
      obtain ⟨k', hk'⟩ := riF_ex (v := v) a2 a1
      rw [e] at hk'
      cases hk'
end ORDER
