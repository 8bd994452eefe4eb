/-! THE TEXT: the class's reader, words, wholes, names -/
def isNm (w : List Nat) : Bool := !(decide (w = kCity) || (decide (w = kPerson) || (decide (w = kNear) || (decide (w = kAsked) || (decide (w = kHeard) || (decide (w = kWent) || decide (w = kCat)))))))
def nmAt (f : Nat → Int32) (N e : Nat) : Bool := decide (tkK f N e = 1) && isNm (tkW f N e)
def bea (D : Drf) (w : List Nat) : Option Nat := fs (fun p => decide (dN D p = w)) 0 (pe (dC D))
def pAt (f : Nat → Int32) (N : Nat) (D : Drf) (e : Nat) : Sum (Nat × Nat) Nat := if nmAt f N e then (match bea D (tkW f N e) with
  | some p => .inr p
  | none => .inl (2, tkS f N e)) else .inl (1, tkS f N e)
def isW (f : Nat → Int32) (N : Nat) (w : List Nat) (e : Nat) : Bool := decide (tkK f N e = 1 ∧ tkW f N e = w)
def tWd (f : Nat → Int32) (N : Nat) (w : List Nat) (D : Drf) (e : Nat) : Sum (Nat × Nat) (Nat × Drf) := if isW f N w e then .inr (tkE f N e, D) else .inl (1, tkS f N e)
def tWh (f : Nat → Int32) (N m : Nat) (D : Drf) (e : Nat) : Sum (Nat × Nat) (Nat × Drf) := if tkK f N e = 2 then (if tkV f N e ≤ m then .inr (tkE f N e, D) else .inl (4, tkS f N e)) else .inl (1, tkS f N e)
def kdAt (f : Nat → Int32) (N e : Nat) : Option Nat := if isW f N kPlain e then some 0 else if isW f N kShut e then some 1 else if isW f N kWalled e then some 2 else if isW f N kDoctor e then some 3 else none
def cRd (σ : xM) (f : Nat → Int32) (N e : Nat) (D : Drf) : Prop := rdB σ f N ∧ e ≤ N ∧ mI σ 1 8 = nI e ∧ mI σ 1 3 = 0 ∧ mI σ 1 11 = bo (dB D) ∧ cC σ 2 (dC D) ∧ ∀ p, p < pe (dC D) → mJ σ 14 p = lN (wdC (dN D p))
def Prd : Nat → Nat → Bool := fun a k => (Nat.beq a 1 && !(Nat.beq k 0 || Nat.beq k 5)) || ((Nat.ble 2 a && Nat.ble a 12) || Nat.beq a 14)
theorem rd_sp {σ τ : xM} (h : Upd Psp σ τ) : Upd Prd σ τ := h.mono (fun a k hq => by
  unfold Prd at hq
  simp only [Bool.or_eq_false_iff] at hq
  unfold Psp
  by_cases e : a = 1
  · subst e
    have h1 : ¬ (k ≠ 0 ∧ k ≠ 5) := fun h => by
      have h2 := hq.1
      rw [beqF h.1, beqF h.2] at h2
      cases h2
    have h3 : k = 0 ∨ k = 5 := by omega
    rcases h3 with rfl | rfl <;> rfl
  · rw [beqF e]
    rfl)
theorem Psp_2 {a : Nat} (k : Nat) (h : a ≠ 1) : Psp a k = false := by
  unfold Psp
  rw [beqF h]
  rfl
theorem Prd_13 (k : Nat) : Prd 13 k = false := rfl
theorem rdB_rd {σ τ : xM} {f : Nat → Int32} {N : Nat} (hu : Upd Prd σ τ) (h : rdB σ f N) : rdB τ f N := rdB_upd hu rfl (fun _ => rfl) h
section CLASS
variable {σ : xM} {f : Nat → Int32} {N e : Nat} {D : Drf}
/-- step, in a draft -/
theorem c26 (h : cRd σ f N e D) : ∃ τ, f26 1 σ = some (nI (tkK f N e), τ) ∧ Upd Psp σ τ ∧ cRd τ f N (tkE f N e) D ∧ cTk τ f N e := by
  obtain ⟨h1, h2, h3, h4, h5, h6, h7⟩ := h
  obtain ⟨τ, t1, t2, t3⟩ := f26N h1 h2 h3
  refine ⟨τ, t1, t2, ⟨rdB_upd t2 rfl (fun _ => rfl) h1, (tk_b h2).2.2.2.1, t3.2.1, (t2.2.1 1 3 rfl).trans h4, (t2.2.1 1 11 rfl).trans h5, cC_upd t2 (fun i k _ => Psp_2 k (by omega)) h6, fun p hp => (t2.2.2 14 p rfl).trans (h7 p hp)⟩, t3⟩
/-- spoil -/
def spo (σ : xM) (k : Int32) (pl : Nat) : xM := wI (wI σ 1 3 k) 1 1 (nI pl)
theorem f25N (hS : Sh σ) {pl : Nat} (h7 : mI σ 1 7 = nI pl) (k : Int32) : f25 1 k σ = some (bo false, spo σ k pl) := by
  have hS1 : Sh (wI σ 1 3 k) := hS
  have e7 : mI (wI σ 1 3 k) 1 7 = nI pl := by rw [mI_w, if_neg (by omega)]; exact h7
  unfold f25
  simp only [acR hS, Option.bind_some, acR hS1, e7, rZ0]
  rfl
/-- a fault told -/
def cFl (τ : xM) (x : Nat × Nat) : Prop := mI τ 1 3 = nI x.1 ∧ mI τ 1 1 = nI x.2
theorem spo_ok (k pl : Nat) : Upd Prd σ (spo σ (nI k) pl) ∧ cFl (spo σ (nI k) pl) (k, pl) := by
  unfold spo
  refine ⟨(Upd.refl.wI rfl).wI rfl, ?_, ?_⟩
  · rw [mI_w, if_neg (by omega), mI_w, if_pos ⟨rfl, rfl⟩]
  · rw [mI_w, if_pos ⟨rfl, rfl⟩]
/-- what a method of the reader leaves -/
def cRs (σ : xM) (f : Nat → Int32) (N : Nat) (o : Option (Int32 × xM)) (r : Sum (Nat × Nat) (Nat × Drf)) : Prop := match r with
  | .inl x => ∃ τ, o = some (bo false, τ) ∧ Upd Prd σ τ ∧ cFl τ x
  | .inr y => ∃ τ, o = some (bo true, τ) ∧ Upd Prd σ τ ∧ cRd τ f N y.1 y.2
theorem cRs_spo (hS : Sh σ) {k : Nat} (ht : cTk σ f N e) : cRs σ f N (f25 1 (nI k) σ) (.inl (k, tkS f N e)) := ⟨_, f25N hS ht.1 (nI k), spo_ok k _⟩
/-- stands -/
theorem f29N (hS : Sh σ) (he : e ≤ N) (ht : cTk σ f N e) {w : List Nat} (hw : okW w) : f29 1 (lN (wdC w)) σ = some (bo (isW f N w e), σ) := by
  obtain ⟨t1, t2, t3, t4, t5⟩ := ht
  have hk : tkK f N e ≤ 4 := by
    unfold tkK
    repeat' split
    all_goals omega
  unfold f29 f29_21 f29_22 isW
  simp only [acR hS, Option.bind_some, t3, show (nI (tkK f N e) = 1) = (tkK f N e = 1) from propext (nI_eq (a := tkK f N e) (b := 1) (by omega) (by omega)), rZ0, rZ1]
  by_cases e1 : tkK f N e = 1
  · rw [if_pos e1, t4 e1]
    simp only [wC_eq (tkW_ok he e1) hw]
    by_cases e2 : tkW f N e = w
    · rw [if_pos e2, decide_eq_true ⟨e1, e2⟩]
    · rw [if_neg e2, decide_eq_false (fun h => e2 h.2)]
  · rw [if_neg e1, decide_eq_false (fun h => e1 h.1)]
/-- takeWord -/
theorem c30 (h : cRd σ f N e D) {w : List Nat} (hw : okW w) : cRs σ f N (f30 1 (lN (wdC w)) σ) (tWd f N w D e) := by
  obtain ⟨τ, t1, t2, t3, t4⟩ := c26 h
  have hS := h.1.1
  have hS' := t3.1.1
  unfold f30 f30_26 f30_21 tWd
  simp only [acR hS, Option.bind_some, t1, acR hS', f29N hS' h.2.1 t4 hw, bo_0, rZ0, rZ1]
  cases e1 : isW f N w e
  · rw [if_pos rfl, if_neg (by simp), show (1 : Int32) = nI 1 from rfl, f25N hS' t4.1, Option.bind_some]
    exact ⟨_, rfl, (rd_sp t2).trans (spo_ok 1 _).1, (spo_ok 1 _).2⟩
  · rw [if_neg (by simp), if_pos rfl]
    exact ⟨τ, rfl, rd_sp t2, t3⟩
/-- takeWhole -/
theorem c31 (h : cRd σ f N e D) {m : Nat} (hm : m < 2 ^ 31) : match tWh f N m D e with
    | .inl x => ∃ τ, f31 1 (nI m) σ = some (bo false, τ) ∧ Upd Prd σ τ ∧ cFl τ x
    | .inr y => ∃ τ, f31 1 (nI m) σ = some (bo true, τ) ∧ Upd Prd σ τ ∧ cRd τ f N y.1 y.2 ∧ mI τ 1 9 = nI (tkV f N e) := by
  obtain ⟨τ, t1, t2, t3, t4⟩ := c26 h
  have hS := h.1.1
  have hS' := t3.1.1
  have hk : tkK f N e ≤ 4 := by
    unfold tkK
    repeat' split
    all_goals omega
  have e0 : f31 1 (nI m) σ = if tkK f N e = 2 then (if tkV f N e ≤ m then some (bo true, τ) else some (bo false, spo τ (nI 4) (tkS f N e))) else some (bo false, spo τ (nI 1) (tkS f N e)) := by
    unfold f31 f31_35 f31_30
    simp only [acR hS, Option.bind_some, t1, show (nI (tkK f N e) = 2) = (tkK f N e = 2) from propext (nI_eq (a := tkK f N e) (b := 2) (by omega) (by omega)), acR hS', rZ1, show (1 : Int32) = nI 1 from rfl, show (4 : Int32) = nI 4 from rfl, f25N hS' t4.1, bo_0, rZ0, bo_Z, rZ1']
    by_cases e2 : tkK f N e = 2
    · have hv := tkV_ok h.2.1 e2
      rw [if_pos e2, if_pos e2, t4.2.2.2.2 e2]
      simp only [nI_leI (show tkV f N e < 2 ^ 31 by omega) hm, if_true]
      rw [show f31_35 (nI 1) τ = some (bo true, τ) from rZ1' τ]
    · rw [if_neg e2, if_neg e2]
  rw [e0]
  unfold tWh
  by_cases e2 : tkK f N e = 2
  · rw [if_pos e2, if_pos e2]
    by_cases e3 : tkV f N e ≤ m
    · rw [if_pos e3, if_pos e3]
      exact ⟨τ, rfl, rd_sp t2, t3, t4.2.2.2.2 e2⟩
    · rw [if_neg e3, if_neg e3]
      exact ⟨_, rfl, (rd_sp t2).trans (spo_ok 4 _).1, (spo_ok 4 _).2⟩
  · rw [if_neg e2, if_neg e2]
    exact ⟨_, rfl, (rd_sp t2).trans (spo_ok 1 _).1, (spo_ok 1 _).2⟩
/-- isName -/
theorem f32N (hS : Sh σ) (he : e ≤ N) (ht : cTk σ f N e) : f32 1 σ = some (bo (nmAt f N e), σ) := by
  obtain ⟨t1, t2, t3, t4, t5⟩ := ht
  have hk : tkK f N e ≤ 4 := by
    unfold tkK
    repeat' split
    all_goals omega
  unfold f32 f32_77 f32_82 f32_99 f32_100 nmAt isNm
  simp only [acR hS, Option.bind_some, t3, show (nI (tkK f N e) = 1) = (tkK f N e = 1) from propext (nI_eq (a := tkK f N e) (b := 1) (by omega) (by omega)), rZ0, rZ1]
  by_cases e1 : tkK f N e = 1
  · have hw := tkW_ok he e1
    rw [t4 e1, ← kCity_ok.2.1, ← kPerson_ok.2.1, ← kNear_ok.2.1, ← kAsked_ok.2.1, ← kHeard_ok.2.1, ← kWent_ok.2.1, ← kCat_ok.2.1]
    simp only [wC_eq hw kCity_ok.1, wC_eq hw kPerson_ok.1, wC_eq hw kNear_ok.1, wC_eq hw kAsked_ok.1, wC_eq hw kHeard_ok.1, wC_eq hw kWent_ok.1, wC_eq hw kCat_ok.1, if_pos e1, decide_eq_true e1, Bool.true_and]
    by_cases a1 : tkW f N e = kCity
    · simp [a1]
    · by_cases a2 : tkW f N e = kPerson
      · simp [a2]
      · by_cases a3 : tkW f N e = kNear
        · simp [a3]
        · by_cases a4 : tkW f N e = kAsked
          · simp [a4]
          · by_cases a5 : tkW f N e = kHeard
            · simp [a5]
            · by_cases a6 : tkW f N e = kWent
              · simp [a6]
              · by_cases a7 : tkW f N e = kCat
                · simp [a7]
                · simp [a1, a2, a3, a4, a5, a6, a7]
  · simp only [if_neg e1, decide_eq_false e1, Bool.false_and, ite_self]
/-- bearer -/
theorem f33N (h : cRd σ f N (tkE f N e) D) (hO : OkD D) (he : e ≤ N) (ht : cTk σ f N e) (hk1 : tkK f N e = 1) : f33 1 σ = some (obB (bea D (tkW f N e)), σ) := by
  obtain ⟨h1, h2, h3, h4, h5, h6, h7⟩ := h
  have hS := h1.1
  have hp6 := hO.1.1
  have hw := tkW_ok he hk1
  have h10 := ht.2.2.2.1 hk1
  unfold f33 bea
  refine lpE (fun m j => f33_2 m 1 (nI j) σ) (pe (dC D)) (fun p => decide (dN D p = tkW f N e)) (fun o => some (obB o, σ)) (fun j hj hc m r hn => ?_) (fun j hj hc m => ?_) (fun m => ?_) (pe (dC D)) 1100 0 (by omega) (by omega)
  · have hn : f33_2 m 1 (nI (j + 1)) σ = r := hn
    rw [decide_eq_false_iff_not] at hc
    show f33_2 (m + 1) _ _ _ = _
    rw [f33_2]
    simp only [acR hS, Option.bind_some, h6.1.2.2.1, show j < 6 by omega, h7 j hj, h10, wC_eq (hO.2.2.2.2.1 j hj) hw, nI_1]
    rw [if_neg (nI_ge hj (by omega)), if_neg (show ¬ (6 : Int32) ≤ nI j from nI_ge (b := 6) (by omega) (by omega)), if_neg hc]
    exact hn
  · rw [decide_eq_true_eq] at hc
    show f33_2 (m + 1) _ _ _ = _
    rw [f33_2]
    simp only [acR hS, Option.bind_some, h6.1.2.2.1, show j < 6 by omega, h7 j hj, h10, wC_eq (hO.2.2.2.2.1 j hj) hw]
    rw [if_neg (nI_ge hj (by omega)), if_neg (show ¬ (6 : Int32) ≤ nI j from nI_ge (b := 6) (by omega) (by omega)), if_pos hc]
    rfl
  · show f33_2 (m + 1) _ _ _ = _
    rw [f33_2]
    simp only [acR hS, Option.bind_some, h6.1.2.2.1]
    rw [if_pos (nI_le (by omega) (by omega))]
    rfl
theorem bea_lt {w : List Nat} {p : Nat} (h : bea D w = some p) : p < pe (dC D) := by
  have := (fs_lt _ _ _ h).1
  omega
theorem obB_p {p : Nat} (hp : p < 2 ^ 31) : ¬ nI p = -1 := fun h => by
  have h1 := nI_pos hp
  rw [h] at h1
  exact absurd (by decide) h1
/-- personHere -/
theorem f34N (h : cRd σ f N (tkE f N e) D) (hO : OkD D) (he : e ≤ N) (ht : cTk σ f N e) : match pAt f N D e with
    | .inl x => ∃ τ, f34 1 σ = some (-1, τ) ∧ Upd Prd σ τ ∧ cFl τ x
    | .inr p => f34 1 σ = some (nI p, σ) ∧ p < pe (dC D) := by
  have hS := h.1.1
  have hp6 := hO.1.1
  unfold pAt
  cases e1 : nmAt f N e
  · rw [if_neg (by simp)]
    refine ⟨_, ?_, spo_ok 1 _⟩
    unfold f34 f34_15 f34_34 f34_38
    simp only [acR hS, Option.bind_some, f32N hS he ht, e1, bo_0, show (1 : Int32) = nI 1 from rfl, f25N hS ht.1, if_true]
  · rw [if_pos rfl]
    have hk1 : tkK f N e = 1 := by
      unfold nmAt at e1
      rw [Bool.and_eq_true, decide_eq_true_eq] at e1
      exact e1.1
    have h33 := f33N h hO he ht hk1
    cases e2 : bea D (tkW f N e) with
    | none =>
      rw [e2] at h33
      refine ⟨_, ?_, spo_ok 2 _⟩
      unfold f34 f34_15 f34_34 f34_38
      simp only [acR hS, Option.bind_some, f32N hS he ht, e1, bo_0, h33]
      rw [if_neg (by simp), if_pos (show obB none = -1 from rfl), if_neg (by simp), show (2 : Int32) = nI 2 from rfl, f25N hS ht.1]
      rfl
    | some p =>
      rw [e2] at h33
      have hp := bea_lt e2
      refine ⟨?_, hp⟩
      unfold f34 f34_15 f34_34 f34_38
      simp only [acR hS, Option.bind_some, f32N hS he ht, e1, bo_0, h33]
      rw [if_neg (by simp), if_neg (show ¬ obB (some p) = -1 from obB_p (by omega))]
      rfl
/-- takePerson -/
theorem f35N (h : cRd σ f N e D) (hO : OkD D) : match pAt f N D e with
    | .inl x => ∃ τ, f35 1 σ = some (-1, τ) ∧ Upd Prd σ τ ∧ cFl τ x
    | .inr p => p < pe (dC D) ∧ ∃ τ, f35 1 σ = some (nI p, τ) ∧ Upd Prd σ τ ∧ cRd τ f N (tkE f N e) D ∧ cTk τ f N e := by
  obtain ⟨τ, t1, t2, t3, t4⟩ := c26 h
  have hS := h.1.1
  have hS' := t3.1.1
  have h34 := f34N t3 hO h.2.1 t4
  unfold f35
  simp only [acR hS, Option.bind_some, t1, acR hS']
  cases e1 : pAt f N D e with
  | inl x =>
    rw [e1] at h34
    obtain ⟨υ, v1, v2, v3⟩ := h34
    exact ⟨υ, by rw [v1, Option.bind_some], (rd_sp t2).trans v2, v3⟩
  | inr p =>
    rw [e1] at h34
    obtain ⟨v1, v2⟩ := h34
    exact ⟨v2, τ, by rw [v1, Option.bind_some], rd_sp t2, t3, t4⟩
/-- takeKind -/
theorem f39N (h : cRd σ f N e D) : ∃ τ, f39 1 σ = some (obB (kdAt f N e), τ) ∧ Upd Psp σ τ ∧ cRd τ f N (tkE f N e) D ∧ cTk τ f N e := by
  obtain ⟨τ, t1, t2, t3, t4⟩ := c26 h
  have hS := h.1.1
  have hS' := t3.1.1
  refine ⟨τ, ?_, t2, t3, t4⟩
  unfold f39 f39_62 kdAt
  rw [← kPlain_ok.2.1, ← kShut_ok.2.1, ← kWalled_ok.2.1, ← kDoctor_ok.2.1]
  simp only [acR hS, Option.bind_some, t1, acR hS', f29N hS' h.2.1 t4 kPlain_ok.1, f29N hS' h.2.1 t4 kShut_ok.1, f29N hS' h.2.1 t4 kWalled_ok.1, f29N hS' h.2.1 t4 kDoctor_ok.1, bo_0]
  cases isW f N kPlain e <;> cases isW f N kShut e <;> cases isW f N kWalled e <;> cases isW f N kDoctor e <;> rfl
end CLASS
