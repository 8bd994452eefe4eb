/-! ACTS: the reference's rows -/
theorem mrow_congr {f g : Nat → Int32} {n : Nat} {s : Sta} (hn : n ≤ 6) (h : ∀ k, k < 47 → f k = g k) (hf : mrow f n s) : mrow g n s := by
  obtain ⟨c1, c2, c3, c4, c5, c6, c7⟩ := hf
  refine ⟨fun p hp => ?_, fun p hp q hq => ?_, ?_, ?_, ?_, ?_, ?_⟩
  · rw [← h p (by omega)]; exact c1 p hp
  · rw [← h _ (by omega)]; exact c2 p hp q hq
  all_goals rw [← h _ (by omega)]; assumption
def mP (σ : xM) (n : Nat) (ps : Nat → Sta) (na : Nat) : Prop := na ≤ 16 ∧ mI σ 102 20 = nI na ∧ ∀ i, i < na → mrow (fun k => mI σ 106 (47 * (na - 1 - i) + k)) n (ps i)
def mIm (σ : xM) (n : Nat) (im : Nat → Sta) (ni : Nat) : Prop := ni ≤ 3 ∧ mI σ 102 21 = nI ni ∧ ∀ i, i < ni → mrow (fun k => mI σ 107 (47 * i + k)) n (im i)
def P106 : Nat → Nat → Bool := fun a k => Nat.beq a 106 || (Nat.beq a 102 && Nat.beq k 20)
section REF
variable {σ : xM} {n na : Nat} {s : Sta} {ps : Nat → Sta}
/-- a row is written behind the others -/
theorem f261_51N (hS : Sh σ) (hn : n ≤ 6) (hv : mrow (mI σ 104) n s) (h20 : mI σ 102 20 = nI na) (hna : na < 16) : ∃ τ, f261_51 1100 102 0 σ = some τ ∧ Upd P106 σ τ ∧ mI τ 102 20 = nI (na + 1) ∧ (∀ k, mI τ 106 k = if 47 * na ≤ k ∧ k < 47 * na + 47 then mI σ 104 (k - 47 * na) else mI σ 106 k) := by
  refine lpI (fun m j τ => f261_51 m 102 (nI j) τ) 47 (fun j τ => Upd (fun a _ => Nat.beq a 106) σ τ ∧ (∀ k, mI τ 106 k = if 47 * na ≤ k ∧ k < 47 * na + j then mI σ 104 (k - 47 * na) else mI σ 106 k)) (fun o => ∃ τ, o = some τ ∧ Upd P106 σ τ ∧ mI τ 102 20 = nI (na + 1) ∧ (∀ k, mI τ 106 k = if 47 * na ≤ k ∧ k < 47 * na + 47 then mI σ 104 (k - 47 * na) else mI σ 106 k)) (fun j hj m τ hI => ?_) (fun m τ hI => ?_) 47 1100 0 σ rfl (by omega) ⟨Upd.refl, fun k => by rw [if_neg (by omega)]⟩
  · obtain ⟨hu, hr⟩ := hI
    have hS' := hu.sh hS
    have e1 : mI τ 102 20 = nI na := (hu.2.1 102 20 rfl).trans h20
    have e2 : mI τ 104 j = mI σ 104 j := hu.2.1 104 j rfl
    refine ⟨wI τ 106 (47 * na + j) (mI σ 104 j), ⟨hu.wI rfl, fun k => ?_⟩, ?_⟩
    · rw [mI_w]
      by_cases e : k = 47 * na + j
      · rw [if_pos ⟨rfl, e⟩, if_pos (by omega), e, show 47 * na + j - 47 * na = j by omega]
      · rw [if_neg (fun h => e h.2), hr k]
        by_cases e3 : 47 * na ≤ k ∧ k < 47 * na + j
        · rw [if_pos e3, if_pos (by omega)]
        · rw [if_neg e3, if_neg (by omega)]
    · show f261_51 (m + 1) _ _ _ = f261_51 m _ _ _
      rw [f261_51, if_neg (show ¬ (47 : Int32) ≤ nI j from nI_ge (b := 47) hj (by omega))]
      simp only [acM hS', Option.bind_some, e1, hj, e2, show (47 : Int32) = nI 47 from rfl, pk_mul, nI_add, show 47 * na + j < 752 by omega, nI_1]
  · obtain ⟨hu, hr⟩ := hI
    have hS' := hu.sh hS
    have e1 : mI τ 102 20 = nI na := (hu.2.1 102 20 rfl).trans h20
    refine ⟨wI τ 102 20 (nI (na + 1)), ?_, (hu.mono (fun a k hq => ?_)).wI rfl, by rw [mI_w, if_pos ⟨rfl, rfl⟩], fun k => ?_⟩
    · show f261_51 (m + 1) _ _ _ = _
      rw [f261_51, if_pos (show (47 : Int32) ≤ nI 47 by decide)]
      unfold f261_83
      simp only [acM hS', Option.bind_some, e1, nI_1]
    · unfold P106 at hq
      rw [Bool.or_eq_false_iff] at hq
      exact hq.1
    · rw [mI_w, if_neg (fun h => absurd h.1 (by decide))]
      exact hr k
/-- remembers -/
theorem f261N (hS : Sh σ) (hn : n ≤ 6) (hv : mrow (mI σ 104) n s) (hP : mP σ n ps na) : ∃ τ, f261 102 σ = some τ ∧ Upd P106 σ τ ∧ mP τ n (consS s ps) (min (na + 1) 16) := by
  obtain ⟨p1, p2, p3⟩ := hP
  unfold f261
  simp only [acM hS, Option.bind_some, p2, show (16 : Int32) = nI 16 from rfl, nI_eq (show na < 2 ^ 31 by omega) (show 16 < 2 ^ 31 by omega)]
  have hcons : ∀ i, i ≠ 0 → consS s ps i = ps (i - 1) := fun i hi => by unfold consS; rw [if_neg hi]
  by_cases e : na = 16
  · rw [if_pos e]
    have hsh : ∃ τ, f261_11 1100 102 0 σ = f261_39 102 τ ∧ Upd (fun a _ => Nat.beq a 106) σ τ ∧ ∀ k, mI τ 106 k = if k < 705 then mI σ 106 (k + 47) else mI σ 106 k := by
      refine lpI (fun m j τ => f261_11 m 102 (nI j) τ) 705 (fun j τ => Upd (fun a _ => Nat.beq a 106) σ τ ∧ ∀ k, mI τ 106 k = if k < j then mI σ 106 (k + 47) else mI σ 106 k) (fun o => ∃ τ, o = f261_39 102 τ ∧ Upd (fun a _ => Nat.beq a 106) σ τ ∧ ∀ k, mI τ 106 k = if k < 705 then mI σ 106 (k + 47) else mI σ 106 k) (fun j hj m τ hI => ?_) (fun m τ hI => ?_) 705 1100 0 σ rfl (by omega) ⟨Upd.refl, fun k => by rw [if_neg (by omega)]⟩
      · obtain ⟨hu, hr⟩ := hI
        have hS' := hu.sh hS
        refine ⟨wI τ 106 j (mI σ 106 (j + 47)), ⟨hu.wI rfl, fun k => ?_⟩, ?_⟩
        · rw [mI_w]
          by_cases e : k = j
          · rw [if_pos ⟨rfl, e⟩, if_pos (by omega), e]
          · rw [if_neg (fun h => e h.2), hr k]
            by_cases e3 : k < j
            · rw [if_pos e3, if_pos (by omega)]
            · rw [if_neg e3, if_neg (by omega)]
        · show f261_11 (m + 1) _ _ _ = f261_11 m _ _ _
          rw [f261_11, if_neg (show ¬ (705 : Int32) ≤ nI j from nI_ge (b := 705) hj (by omega))]
          simp only [acM hS', Option.bind_some, show (47 : Int32) = nI 47 from rfl, nI_add, show j + 47 < 752 by omega, hr (j + 47), show ¬ j + 47 < j by omega, if_false, show j < 752 by omega, nI_1]
      · obtain ⟨hu, hr⟩ := hI
        refine ⟨τ, ?_, hu, hr⟩
        show f261_11 (m + 1) _ _ _ = _
        rw [f261_11, if_pos (show (705 : Int32) ≤ nI 705 by decide)]
    obtain ⟨τ, t1, t2, t3⟩ := hsh
    have hS' := t2.sh hS
    have e1 : mI τ 102 20 = nI 16 := (t2.2.1 102 20 rfl).trans (e ▸ p2)
    have u2 : Upd P106 σ τ := t2.mono (fun a k hq => by
      unfold P106 at hq
      rw [Bool.or_eq_false_iff] at hq
      exact hq.1)
    have hv' : mrow (mI (wI τ 102 20 (nI 15)) 104) n s := by
      have : mI (wI τ 102 20 (nI 15)) 104 = mI σ 104 := funext (fun k => by rw [mI_w, if_neg (fun h => absurd h.1 (by decide))]; exact t2.2.1 104 k rfl)
      rw [this]
      exact hv
    obtain ⟨υ, v1, v2, v3, v4⟩ := f261_51N (σ := wI τ 102 20 (nI 15)) (na := 15) hS' hn hv' (by rw [mI_w, if_pos ⟨rfl, rfl⟩]) (by omega)
    refine ⟨υ, ?_, (u2.wI rfl).trans v2, Nat.min_le_right _ _, ?_, fun i hi => ?_⟩
    · rw [t1]
      unfold f261_39 f261_49
      simp only [acM hS', Option.bind_some, e1]
      exact v1
    · rw [v3, e]
      rfl
    · rw [e, show min (16 + 1) 16 = 16 from rfl] at hi ⊢
      by_cases ei : i = 0
      · rw [ei, show consS s ps 0 = s from rfl]
        refine mrow_congr hn (fun k hk => ?_) hv'
        show mI (wI τ 102 20 (nI 15)) 104 k = mI υ 106 _
        rw [v4, if_pos (by omega)]
        exact congrArg (mI (wI τ 102 20 (nI 15)) 104) (by omega)
      · rw [hcons i ei]
        refine mrow_congr hn (fun k hk => ?_) (p3 (i - 1) (by omega))
        show mI σ 106 _ = mI υ 106 _
        rw [v4, if_neg (by omega), mI_w, if_neg (fun h => absurd h.1 (by decide)), t3, if_pos (by omega)]
        exact congrArg (mI σ 106) (by omega)
  · rw [if_neg e]
    obtain ⟨υ, v1, v2, v3, v4⟩ := f261_51N (na := na) hS hn hv p2 (by omega)
    have em : min (na + 1) 16 = na + 1 := Nat.min_eq_left (by omega)
    refine ⟨υ, v1, v2, Nat.min_le_right _ _, by rw [em]; exact v3, fun i hi => ?_⟩
    rw [em] at hi ⊢
    by_cases ei : i = 0
    · rw [ei, show consS s ps 0 = s from rfl]
      refine mrow_congr hn (fun k hk => ?_) hv
      show mI σ 104 k = mI υ 106 _
      rw [v4, if_pos (by omega)]
      exact congrArg (mI σ 104) (by omega)
    · rw [hcons i ei]
      refine mrow_congr hn (fun k hk => ?_) (p3 (i - 1) (by omega))
      show mI σ 106 _ = mI υ 106 _
      rw [v4, if_neg (by omega)]
      exact congrArg (mI σ 106) (by omega)
def stw (σ : xM) : xM := wr σ 104 (mI σ 105) 47
/-- stays -/
theorem f262N (hS : Sh σ) : f262 102 σ = some (stw σ) := by
  unfold f262 stw
  refine lp (fun m j => f262_2 m 102 (nI j) (wr σ 104 (mI σ 105) j)) 47 (fun j hj m r hn => ?_) (fun m => ?_) 47 1100 0 rfl (by omega)
  · simp only [wr] at hn
    have hS' : Sh (wr σ 104 (mI σ 105) j) := by rw [Sh_wr]; exact hS
    have e : mI (wr σ 104 (mI σ 105) j) 105 j = mI σ 105 j := by rw [mI_wr, if_neg (fun h => absurd h.1 (by decide))]
    show f262_2 (m + 1) _ _ _ = _
    unfold f262_2
    rw [if_neg (show ¬ (47 : Int32) ≤ nI j from nI_ge (b := 47) hj (by omega))]
    simp only [acM hS', Option.bind_some, hj, e, nI_1]
    exact hn
  · show f262_2 (m + 1) _ _ _ = _
    unfold f262_2 f262_26
    rw [if_pos (show (47 : Int32) ≤ nI 47 by decide)]
theorem stw_row (hx : mrow (mI σ 105) n s) (hn : n ≤ 6) : mrow (mI (stw σ) 104) n s := by
  refine mrow_congr hn (fun k hk => ?_) hx
  unfold stw
  rw [mI_wr, if_pos ⟨rfl, hk⟩]
def P104 : Nat → Nat → Bool := fun a _ => Nat.beq a 104
theorem stw_upd : Upd P104 σ (stw σ) := Upd.refl.wr (fun _ _ => rfl)
end REF
