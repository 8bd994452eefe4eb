/-! MATHEMATICS of asking: the order of one's asks doesn't change his mean; the first who is best -/
theorem heN_max {r : Nat → Option Nat} {ok : Nat → Bool} {p H : Nat} (hp : ok p = true) (hr : r p = some H) (hm : ∀ x h, x ≠ p → r x = some h → h < H) : ∀ j, (j ≤ p → ∀ k, heN r ok j = some k → k < j) ∧ (p < j → heN r ok j = some p) := by
  intro j
  induction j with
  | zero => exact ⟨fun _ k e => (by cases e), fun h => by omega⟩
  | succ j ih =>
    have hlt : ∀ k, heN r ok (j + 1) = some k → k < j + 1 := fun k e => ((heN_congr (j := j + 1) (fun i _ => ⟨rfl, rfl⟩)).2 k e).1
    refine ⟨fun _ k e => hlt k e, fun hpj => ?_⟩
    rw [heN]
    by_cases e : j = p
    · subst e
      have hl : ltO ((heN r ok j).bind r) (r j) = true := by
        rw [hr]
        cases e1 : heN r ok j with
        | none => rfl
        | some k =>
          have hk := ih.1 (Nat.le_refl _) k e1
          cases e2 : r k with
          | none => simp [e2, ltO]
          | some h =>
            have := hm k h (by omega) e2
            simp [e2, ltO, this]
      rw [hp, hl]
      rfl
    · have hin := ih.2 (by omega)
      rw [hin]
      have hl : ltO ((some p).bind r) (r j) = false := by
        show ltO (r p) (r j) = false
        rw [hr]
        cases e2 : r j with
        | none => rfl
        | some h =>
          have := hm j h e e2
          show decide (H < h) = false
          rw [decide_eq_false_iff_not]
          omega
      rw [hl]
      simp
/-- who asks becomes the heir -/
theorem hN_giv {n g p o : Nat} {s : Sta} (hk : Ok n s) (hp6 : p < 6) (hpo : p ≠ o) (hpl : tb (lv s) p = true) (hol : tb (lv s) o = true) (q : Nat) : hN (giv s g p o) q = if q = o then some p else hN s q := by
  have hrg : ∀ x, rg (giv s g p o) x q = if q = o ∧ x = p then some (hr s + 1) else rg s x q := fun x => by
    show upN (rg s) p (upN (rg s p) o (some (hr s + 1))) x q = _
    by_cases e1 : x = p <;> by_cases e2 : q = o <;> simp [upN, e1, e2]
  unfold hN
  rw [show lv (giv s g p o) = lv s from rfl]
  by_cases e : q = o
  · rw [if_pos e, e, hol, if_pos rfl]
    unfold hei
    rw [show lv (giv s g p o) = lv s from rfl]
    refine (heN_max (H := hr s + 1) ?_ ?_ (fun x h hx hxe => ?_) 6).2 hp6
    · simp [hpo, hpl]
    · have := hrg p
      rw [e] at this
      rw [this, if_pos ⟨rfl, rfl⟩]
    · have h1 := hrg x
      rw [e] at h1
      rw [h1, if_neg (fun h => hx h.2)] at hxe
      have := hk.2.2.2.2.2.1 x o h hxe
      omega
  · rw [if_neg e]
    have : hei (giv s g p o) q = hei s q := by
      unfold hei
      rw [show lv (giv s g p o) = lv s from rfl]
      exact (heN_congr (fun x _ => ⟨by rw [hrg x, if_neg (fun h => e h.1)], rfl⟩)).1
    rw [this]
/-- alike as far as a mean goes -/
def alk (s t : Sta) : Prop := hs s = hs t ∧ lv s = lv t ∧ ∀ q, hN s q = hN t q
theorem me_alk {C : Cty} {s t : Sta} {p : Nat} (h : alk s t) : meN C s p = meN C t p := by
  obtain ⟨h1, h2, h3⟩ := h
  have h4 : hN s = hN t := funext h3
  unfold meN
  refine sm_congr (fun q _ => ?_)
  unfold meQ bwN
  rw [h1, h2, h4]
theorem alk_giv {n g p o : Nat} {s t : Sta} (hs' : Ok n s) (ht : Ok n t) (h : alk s t) (hp6 : p < 6) (hpo : p ≠ o) (hpl : tb (lv s) p = true) (hol : tb (lv s) o = true) : alk (giv s g p o) (giv t g p o) := by
  obtain ⟨h1, h2, h3⟩ := h
  refine ⟨?_, h2, fun q => ?_⟩
  · show upN (upN (hs s) o (hs s o - gvn s g o)) p (hs s p + gvn s g o) = upN (upN (hs t) o (hs t o - gvn t g o)) p (hs t p + gvn t g o)
    unfold gvn
    rw [h1]
  · rw [hN_giv hs' hp6 hpo hpl hol, hN_giv ht hp6 hpo (h2 ▸ hpl) (h2 ▸ hol), h3]
theorem alk_swap {n g p a b : Nat} {s : Sta} (hk : Ok n s) (hh : hr s + 2 ≤ 2000) (hp : p < n) (ha : a < n) (hb : b < n) (hpa : p ≠ a) (hpb : p ≠ b) (hpl : tb (lv s) p = true) (hal : tb (lv s) a = true) (hbl : tb (lv s) b = true) : alk (giv (giv s g p a) g p b) (giv (giv s g p b) g p a) := by
  have hp6 : p < 6 := by have := hk.1; omega
  by_cases e : a = b
  · rw [e]
    exact ⟨rfl, rfl, fun _ => rfl⟩
  · have k1 := giv_ok (g := g) hk (by omega) hp ha hpa hpl hal
    have k2 := giv_ok (g := g) hk (by omega) hp hb hpb hpl hbl
    refine ⟨?_, rfl, fun q => ?_⟩
    · funext x
      have e1 : hs (giv s g p a) b = hs s b := by show upN (upN (hs s) a _) p _ b = _; unfold upN; rw [if_neg (fun h => hpb h.symm), if_neg (fun h => e h.symm)]
      have e2 : hs (giv s g p b) a = hs s a := by show upN (upN (hs s) b _) p _ a = _; unfold upN; rw [if_neg (fun h => hpa h.symm), if_neg e]
      have e3 : hs (giv s g p a) p = hs s p + gvn s g a := by show upN (upN (hs s) a _) p _ p = _; unfold upN; rw [if_pos rfl]
      have e4 : hs (giv s g p b) p = hs s p + gvn s g b := by show upN (upN (hs s) b _) p _ p = _; unfold upN; rw [if_pos rfl]
      have g1 : gvn (giv s g p a) g b = gvn s g b := by unfold gvn; rw [e1]
      have g2 : gvn (giv s g p b) g a = gvn s g a := by unfold gvn; rw [e2]
      show upN (upN (hs (giv s g p a)) b (hs (giv s g p a) b - gvn (giv s g p a) g b)) p (hs (giv s g p a) p + gvn (giv s g p a) g b) x = upN (upN (hs (giv s g p b)) a (hs (giv s g p b) a - gvn (giv s g p b) g a)) p (hs (giv s g p b) p + gvn (giv s g p b) g a) x
      rw [e1, e2, e3, e4, g1, g2]
      unfold upN
      by_cases x1 : x = p
      · rw [if_pos x1, if_pos x1]
        omega
      · rw [if_neg x1, if_neg x1]
        by_cases x2 : x = b
        · rw [if_pos x2, if_neg (fun h => e (h.symm.trans x2))]
          show _ = upN (upN (hs s) b _) p _ x
          unfold upN
          rw [if_neg x1, if_pos x2]
        · rw [if_neg x2]
          by_cases x3 : x = a
          · rw [if_pos x3]
            show upN (upN (hs s) a _) p _ x = _
            unfold upN
            rw [if_neg x1, if_pos x3]
          · rw [if_neg x3]
            show upN (upN (hs s) a _) p _ x = upN (upN (hs s) b _) p _ x
            unfold upN
            rw [if_neg x1, if_neg x1, if_neg x2, if_neg x3]
    · rw [hN_giv k1 hp6 hpb hpl hbl, hN_giv hk hp6 hpa hpl hal, hN_giv k2 hp6 hpa hpl hal, hN_giv hk hp6 hpb hpl hbl]
      by_cases x2 : q = b
      · rw [if_pos x2]
        by_cases x3 : q = a
        · rw [if_pos x3]
        · rw [if_neg x3, if_pos x2]
      · rw [if_neg x2]
        by_cases x3 : q = a
        · rw [if_pos x3, if_pos x3]
        · rw [if_neg x3, if_neg x3, if_neg x2]
/-- the first who is best, told otherwise -/
theorem riF_iff {v : Nat → Nat} {c : Nat → Bool} : ∀ {j k}, riF v c j = some k ↔ k < j ∧ c k = true ∧ ∀ i, i < j → c i = true → v i < v k ∨ (v i = v k ∧ k ≤ i) := by
  intro j
  induction j with
  | zero => intro k; exact ⟨fun e => (by cases e), fun h => absurd h.1 (by omega)⟩
  | succ j ih =>
    intro k
    rw [riF]
    cases hc : c j
    · simp only [Bool.false_and]
      rw [if_neg (by simp), ih]
      constructor
      · rintro ⟨a, b, d⟩
        refine ⟨by omega, b, fun i hi hci => ?_⟩
        by_cases e : i = j
        · rw [e, hc] at hci
          cases hci
        · exact d i (by omega) hci
      · rintro ⟨a, b, d⟩
        have : k ≠ j := fun e => by rw [e, hc] at b; cases b
        exact ⟨by omega, b, fun i hi hci => d i (by omega) hci⟩
    · simp only [Bool.true_and]
      cases e : riF v c j with
      | none =>
        have hno : ∀ i, i < j → c i = false := fun i hi => by
          -- nobody ahead
          rw [Bool.eq_false_iff]
          intro hci
          have : ∀ m, i < m → m ≤ j → riF v c m ≠ none := by
            intro m
            induction m with
            | zero => intro h; omega
            | succ m ihm =>
              intro h1 h2 h3
              rw [riF] at h3
              split at h3
              · cases h3
              · rename_i hcond
                by_cases em : i = m
                · rw [em] at hci
                  rw [hci, h3] at hcond
                  exact hcond rfl
                · exact ihm (by omega) (by omega) h3
          exact this j hi (Nat.le_refl _) e
        rw [show mor v none j = true from rfl, if_pos rfl]
        constructor
        · intro h
          cases h
          refine ⟨by omega, hc, fun i hi hci => ?_⟩
          by_cases ei : i = j
          · exact Or.inr ⟨by rw [ei], by omega⟩
          · rw [hno i (by omega)] at hci
            cases hci
        · rintro ⟨a, b, -⟩
          by_cases ek : k = j
          · rw [ek]
          · rw [hno k (by omega)] at b
            cases b
      | some b0 =>
        obtain ⟨a1, a2, a3⟩ := (ih (k := b0)).mp e
        show (if decide (v b0 < v j) = true then some j else some b0) = some k ↔ _
        by_cases hv : v b0 < v j
        · rw [if_pos (decide_eq_true hv)]
          constructor
          · intro h
            cases h
            refine ⟨by omega, hc, fun i hi hci => ?_⟩
            by_cases ei : i = j
            · exact Or.inr ⟨by rw [ei], by omega⟩
            · rcases a3 i (by omega) hci with h | h <;> exact Or.inl (by omega)
          · rintro ⟨a, b, d⟩
            have h1 := d j (by omega) hc
            by_cases ek : k = j
            · rw [ek]
            · exfalso
              have h2 := a3 k (by omega) b
              omega
        · rw [if_neg (by simpa using hv)]
          constructor
          · intro h
            have hkb : b0 = k := Option.some.inj h
            rw [← hkb]
            refine ⟨by omega, a2, fun i hi hci => ?_⟩
            by_cases ei : i = j
            · rw [ei]
              by_cases hq : v j = v b0
              · exact Or.inr ⟨hq, by omega⟩
              · exact Or.inl (by omega)
            · exact a3 i (by omega) hci
          · rintro ⟨a, b, d⟩
            have h1 := d b0 (by omega) a2
            by_cases ek : k = j
            · exfalso
              rw [ek] at h1
              omega
            · have h2 := a3 k (by omega) b
              have : k = b0 := by omega
              rw [this]
/-- only those that come first among their likes need be looked at -/
theorem riF_few {v : Nat → Nat} {c d : Nat → Bool} {N : Nat} (h1 : ∀ i, i < N → d i = true → c i = true) (h2 : ∀ i, i < N → c i = true → ∃ i', i' ≤ i ∧ d i' = true ∧ v i' = v i) : riF v c N = riF v d N := by
  cases e : riF v c N with
  | some k =>
    obtain ⟨a1, a2, a3⟩ := riF_iff.mp e
    obtain ⟨k', b1, b2, b3⟩ := h2 k a1 a2
    have h4 := a3 k' (by omega) (h1 k' (by omega) b2)
    have : k' = k := by omega
    rw [this] at b2
    exact (riF_iff.mpr ⟨a1, b2, fun i hi hd => a3 i hi (h1 i hi hd)⟩).symm
  | none =>
    cases e2 : riF v d N with
    | none => rfl
    | some k =>
      exfalso
      obtain ⟨a1, a2, -⟩ := riF_iff.mp e2
      have hc := h1 k a1 a2
      have : ∀ m, k < m → riF v c m ≠ none := by
        intro m
        induction m with
        | zero => intro h; omega
        | succ m ihm =>
          intro h1 h3
          rw [riF] at h3
          split at h3
          · cases h3
          · rename_i hcond
            by_cases em : k = m
            · rw [em] at hc
              rw [hc, h3] at hcond
              exact hcond rfl
            · exact ihm (by omega) h3
      exact this N a1 e
