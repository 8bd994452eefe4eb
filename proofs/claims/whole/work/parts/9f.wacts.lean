/-! THE WORLD: the acts -/
def AOk (C : Cty) (x : Act) : Prop := x.2.1 ≠ 4 ∧ (pe C = 0 → zer C x.2.2.1 x.2.2.2.2.1 x.2.2.2.2.2.2) ∧ hr x.2.2.1 ≤ 999 ∧ Ok (pe C) x.2.2.1 ∧ (∀ i, i < x.2.2.2.2.1 → hr (x.2.2.2.1 i) ≤ 999 ∧ Ok (pe C) (x.2.2.2.1 i)) ∧ (∀ i, i < x.2.2.2.2.2.2 → hr (x.2.2.2.2.2.1 i) ≤ 999 ∧ Ok (pe C) (x.2.2.2.2.2.1 i))
section WLD
variable {σ τ : xM} {C : Cty} {s : Sta} {ps im : Nat → Sta} {na ni n : Nat} {f : Nat → Int32} {r ft wh : Int32}
theorem A_two {F G : xM → Option (Int32 × xM)} {x : Act} (hC : CW σ C s ps na im ni n f r ft wh) (hM : MW σ C s ps na im ni n f r ft wh) (hO : OW C s ps na im ni n f r wh) (hX : AOk C x) (hF : cA σ C (F σ) x) (hG : ∀ τ, QM τ C s → mP τ (pe C) ps na → mIm τ (pe C) im ni → mA τ C (G τ) x) : Two F G σ := by
  obtain ⟨o1, o2, o3, o4, o5, o6, o7⟩ := hO
  obtain ⟨x1, x2, x3, x4, x5, x6⟩ := hX
  have hS := hC.1.1
  obtain ⟨τ, t1, t2, t3, t4, t5, t6⟩ := hF
  have fm := Frm_upd hS t2 PcA_hi
  have hM1 := MW_fr fm hM
  obtain ⟨υ, u1, u2, u3, u4, u5, u6, u7, u8⟩ := hG τ hM1.1 hM1.2.1 hM1.2.2.1
  have fc := Frc_upd hM1.1.1 u2 PmA_lo
  have hC1 : CW τ C x.2.2.1 x.2.2.2.1 x.2.2.2.2.1 x.2.2.2.2.2.1 x.2.2.2.2.2.2 n f x.2.1 ft (-1) := by
    obtain ⟨⟨q1, q2, q3, q4, q5⟩, h2, h3, h4', h5, h6, h7, h8⟩ := hC
    have e : ∀ b k, PcA b k = false → mI τ b k = mI σ b k := t2.2.1
    refine ⟨⟨t2.sh hS, (e 15 2 rfl).trans q2, t4, x4, fun hp => ?_⟩, ?_, t5, t6, ⟨h5.1, (e 1 0 rfl).trans h5.2.1, fun i hi => (e 13 i rfl).trans (h5.2.2 i hi)⟩, t3, (e 0 9 rfl).trans h7, fun hr => absurd hr x1⟩
    · obtain ⟨y1, y2, y3⟩ := q5 hp
      refine ⟨cC_upd t2 (fun i k hi => ?_) y1, y2, fun i hi => (e 22 i rfl).trans (y3 i hi)⟩
      unfold PcA PcQ
      have : Nat.ble 26 (15 + i) = false := by rw [Bool.eq_false_iff]; intro h; rw [Nat.ble_eq] at h; omega
      rw [anyF (fun b hb => by simp at hb; omega), beqF (show 15 + i ≠ 0 by omega), this]
      rfl
    · exact ⟨(e 15 0 rfl).trans h2.1, (e 15 1 rfl).trans h2.2.1, (e 15 2 rfl).trans h2.2.2.1, (e 15 3 rfl).trans h2.2.2.2.1, (e 15 4 rfl).trans h2.2.2.2.2.1, (e 15 5 rfl).trans h2.2.2.2.2.2.1, (e 15 6 rfl).trans h2.2.2.2.2.2.2⟩
  have hM2 : MW υ C x.2.2.1 x.2.2.2.1 x.2.2.2.2.1 x.2.2.2.2.2.1 x.2.2.2.2.2.2 n f x.2.1 ft (-1) := by
    obtain ⟨⟨q1, q2, q3, q4⟩, h2, h3, h4', h5, h6, h7⟩ := hM1
    have e : ∀ b k, PmA b k = false → mI υ b k = mI τ b k := u2.2.1
    refine ⟨⟨u2.sh q1, x4, u6, ?_⟩, u7, u8, ⟨h4'.1, (e 102 6 rfl).trans h4'.2.1, fun i hi => (e 103 i rfl).trans (h4'.2.2 i hi)⟩, u3, (e 102 12 rfl).trans h6, u4⟩
    rcases q4 with ⟨z1, z2⟩ | ⟨z1, z2, c, z3, z6⟩
    · exact Or.inl ⟨z1, by rw [u2.1.2.2.1]; exact z2⟩
    · exact Or.inr ⟨z1, z2, c, u2.hasT z3, mC_lo u2 loA z3.2.1.1 z6⟩
  exact ⟨x.1, τ, υ, t1, u1, ⟨t2.1.2.2.2.1, t2.1.2.2.2.2⟩, ⟨by rw [u2.1.2.2.2.1]; omega, by rw [u2.1.2.2.2.1]; omega, by rw [u2.1.2.2.2.2]; omega⟩, C, _, _, _, _, _, n, f, x.2.1, ft, -1, CW_fr fc hC1, hM2, o1, x2, x3, x5, x6, o6, fun _ => rfl⟩
theorem AOk_no {a rr : Int32} (hr4 : rr ≠ 4) (hk : Ok (pe C) s) (hO : OW C s ps na im ni n f r wh) : AOk C (a, rr, s, ps, na, im, ni) := ⟨hr4, hO.2.1, hO.2.2.1, hk, hO.2.2.2.1, hO.2.2.2.2.1⟩
theorem cons_P {P : Sta → Prop} {m : Nat} (h : ∀ i, i < na → P (ps i)) (hs : P s) (hm : m ≤ na + 1) : ∀ i, i < m → P (consS s ps i) := fun i hi => by
  unfold consS
  by_cases e : i = 0
  · rw [if_pos e]; exact hs
  · rw [if_neg e]; exact h _ (by omega)
theorem askT4 (p q : Int32) : askT C s p q ≠ 4 := by
  unfold askT
  repeat' split
  all_goals first | exact n4_0 | exact n4_1 | exact n4_3 | exact n4_5 | exact n4_6
theorem nigT4 : nigT n s ≠ 4 := by
  unfold nigT
  repeat' split
  all_goals first | exact n4_0 | exact n4_1 | exact n4_3
theorem sedT4 (x : Int32) : sedT n x ≠ 4 := by
  unfold sedT
  repeat' split
  all_goals first | exact n4_0 | exact n4_1 | exact n4_2
theorem imgT4 : imgT n ni ≠ 4 := by
  unfold imgT
  repeat' split
  all_goals first | exact n4_0 | exact n4_1 | exact n4_3
theorem w104 (h : Wd σ) (p q : Int32) : Two (f104 0 p q) (f263 102 p q) σ := by
  obtain ⟨C, s, ps, na, im, ni, n, f, r, ft, wh, hC, hM, hO⟩ := h
  have hk := hC.1.2.2.2.1
  refine A_two (x := aAsk C s ps na im ni p q) hC hM hO ?_ (c104 hC.1 hC.2.2.1 hC.2.2.2.1 p q) (fun τ h1 h2 h3 => m263 h1 hO.2.2.1 h2 h3 p q)
  unfold aAsk
  by_cases e : askT C s p q = 0
  · obtain ⟨i, j, hi, hj, rfl, rfl, hij, l1, l2, -, hl⟩ := askT_0 hk e
    have h6 := hk.1
    rw [if_pos e, pN_nI (show i < 6 by omega), pN_nI (show j < 6 by omega)]
    refine ⟨n4_0, fun h0 => by omega, show hr s + 1 ≤ 999 by omega, giv_ok hk (by omega) hi hj hij l1 l2, cons_P (P := fun s => hr s ≤ 999 ∧ Ok (pe C) s) hO.2.2.2.1 ⟨hO.2.2.1, hk⟩ (Nat.min_le_left _ _), hO.2.2.2.2.1⟩
  · rw [if_neg e]
    exact AOk_no (askT4 p q) hk hO
theorem w105 (h : Wd σ) (p : Int32) : Two (f105 0 p) (f264 102 p) σ := by
  obtain ⟨C, s, ps, na, im, ni, n, f, r, ft, wh, hC, hM, hO⟩ := h
  have hk := hC.1.2.2.2.1
  refine A_two (x := aDie (pe C) s ps na im ni p) hC hM hO ?_ (c105 hC.1 hC.2.2.1 hC.2.2.2.1 p) (fun τ h1 h2 h3 => m264 h1 h2 h3 p)
  unfold aDie
  by_cases e : lvOr (pe C) s p = 0
  · obtain ⟨j, hj, rfl, hl⟩ := lvOr_0 hk e
    have h6 := hk.1
    rw [if_pos e, pN_nI (show j < 6 by omega)]
    exact ⟨n4_0, fun h0 => by omega, hO.2.2.1, lea_ok hk (pow64 (by omega)) (sub_pow hl), cons_P (P := fun s => hr s ≤ 999 ∧ Ok (pe C) s) hO.2.2.2.1 ⟨hO.2.2.1, hk⟩ (Nat.min_le_left _ _), hO.2.2.2.2.1⟩
  · rw [if_neg e]
    exact AOk_no (lvOr4 _ _ _) hk hO
theorem w106 (h : Wd σ) : Two (f106 0) (f265 102) σ := by
  obtain ⟨C, s, ps, na, im, ni, n, f, r, ft, wh, hC, hM, hO⟩ := h
  have hk := hC.1.2.2.2.1
  refine A_two (x := aNgt C s ps na im ni) hC hM hO ?_ (c106 hC.1 hC.2.2.1 hC.2.2.2.1) (fun τ h1 h2 h3 => m265 h1 h2 h3)
  unfold aNgt
  by_cases e : nigT (pe C) s = 0
  · obtain ⟨h0, h9⟩ := nigT_0 e
    rw [if_pos e]
    exact ⟨n4_0, fun h0 => by omega, show hr s ≤ 999 from hO.2.2.1, ngt_ok (nup_ok hk (by omega)), cons_P (P := fun s => hr s ≤ 999 ∧ Ok (pe C) s) hO.2.2.2.1 ⟨hO.2.2.1, hk⟩ (Nat.min_le_left _ _), hO.2.2.2.2.1⟩
  · rw [if_neg e]
    exact AOk_no nigT4 hk hO
theorem w107 (h : Wd σ) (x : Int32) : Two (f107 0 x) (f266 102 x) σ := by
  obtain ⟨C, s, ps, na, im, ni, n, f, r, ft, wh, hC, hM, hO⟩ := h
  have hk := hC.1.2.2.2.1
  refine A_two (x := aSed (pe C) s ps na im ni x) hC hM hO ?_ (c107 hC.1 hC.2.2.1 hC.2.2.2.1 x) (fun τ h1 h2 h3 => m266 h1 h2 h3 x)
  unfold aSed
  by_cases e : sedT (pe C) x = 0
  · obtain ⟨h0, a, ha, rfl⟩ := sedT_0 e
    rw [if_pos e, pN_any ha]
    exact ⟨n4_0, fun h0 => by omega, show hr s ≤ 999 from hO.2.2.1, ssd_ok hk ha, hO.2.2.2.1, hO.2.2.2.2.1⟩
  · rw [if_neg e]
    exact AOk_no (sedT4 x) hk hO
theorem w108 (h : Wd σ) : Two (f108 0) (f267 102) σ := by
  obtain ⟨C, s, ps, na, im, ni, n, f, r, ft, wh, hC, hM, hO⟩ := h
  have hk := hC.1.2.2.2.1
  have hz : ¬ 0 < pe C → na = 0 := fun h => (hO.2.1 (by omega)).2.2.2.2.2.2.2.2.2.1
  refine A_two (x := aUnd s ps na im ni) hC hM hO ?_ (c108 hC.1 hC.2.2.1 hC.2.2.2.1) (fun τ h1 h2 h3 => m267 h1 hz h2 h3)
  unfold aUnd
  by_cases e : na = 0
  · rw [if_pos e]
    exact AOk_no n4_6 hk hO
  · rw [if_neg e]
    obtain ⟨a1, a2⟩ := hO.2.2.2.1 0 (by omega)
    exact ⟨n4_0, fun h0 => absurd (hz (by omega)) e, a1, a2, fun i hi => hO.2.2.2.1 (i + 1) (by have : i < na - 1 := hi; omega), hO.2.2.2.2.1⟩
theorem w109 (h : Wd σ) : Two (f109 0) (f268 102) σ := by
  obtain ⟨C, s, ps, na, im, ni, n, f, r, ft, wh, hC, hM, hO⟩ := h
  have hk := hC.1.2.2.2.1
  refine A_two (x := aImg (pe C) s ps na im ni) hC hM hO ?_ (c109 hC.1 hC.2.2.1 hC.2.2.2.1) (fun τ h1 h2 h3 => m268 h1 h2 h3)
  unfold aImg
  by_cases e : imgT (pe C) ni = 0
  · obtain ⟨h0, h3⟩ := imgT_0 e
    rw [if_pos e]
    refine ⟨n4_0, fun h0 => by omega, hO.2.2.1, hk, hO.2.2.2.1, fun i hi => ?_⟩
    have hi : i < ni + 1 := hi
    show hr (snocS im ni s i) ≤ 999 ∧ Ok (pe C) (snocS im ni s i)
    unfold snocS
    by_cases e1 : i = ni
    · rw [if_pos e1]; exact ⟨hO.2.2.1, hk⟩
    · rw [if_neg e1]; exact hO.2.2.2.2.1 i (by omega)
  · rw [if_neg e]
    exact AOk_no imgT4 hk hO
theorem w110 (h : Wd σ) (x : Int32) : Two (f110 0 x) (f269 102 x) σ := by
  obtain ⟨C, s, ps, na, im, ni, n, f, r, ft, wh, hC, hM, hO⟩ := h
  have hk := hC.1.2.2.2.1
  have hz : ¬ 0 < pe C → ni = 0 := fun h => (hO.2.1 (by omega)).2.2.2.2.2.2.2.2.2.2
  refine A_two (x := aBac s ps na im ni x) hC hM hO ?_ (c110 hC.1 hC.2.2.1 hC.2.2.2.1 x) (fun τ h1 h2 h3 => m269 h1 hz h2 h3 x)
  have hi3 := hC.2.2.2.1.1
  unfold aBac
  cases e : isP ni x
  · rw [if_neg (show ¬ false = true by simp)]
    exact AOk_no n4_1 hk hO
  · obtain ⟨j, hj, rfl⟩ := isP_nI (by omega) e
    rw [if_pos (show true = true from rfl), pN_nI (show j < 6 by omega)]
    obtain ⟨a1, a2⟩ := hO.2.2.2.2.1 j hj
    exact ⟨n4_0, fun h0 => by have := hz (by omega); omega, a1, a2, fun i hi => absurd hi (Nat.not_lt_zero i), hO.2.2.2.2.1⟩
end WLD
