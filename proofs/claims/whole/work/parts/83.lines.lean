/-! THE TEXT: lines; how a draft's cells change -/
/-- a word and a whole behind it: the end and the value -/
def pt (f : Nat → Int32) (N : Nat) (w : List Nat) (m e : Nat) : Sum (Nat × Nat) (Nat × Nat) := if isW f N w e then (if tkK f N (tkE f N e) = 2 then (if tkV f N (tkE f N e) ≤ m then .inr (tkE f N (tkE f N e), tkV f N (tkE f N e)) else .inl (4, tkS f N (tkE f N e))) else .inl (1, tkS f N (tkE f N e))) else .inl (1, tkS f N e)
def lHead (f : Nat → Int32) (N : Nat) (D : Drf) (e : Nat) : Sum (Nat × Nat) (Nat × Drf) := match pt f N kHour 99 e with
  | .inl x => .inl x
  | .inr y => match pt f N kGives 9 y.1 with
    | .inl x => .inl x
    | .inr z => .inr (z.1, (sHead (dC D) y.2 z.2, dN D, true))
def lPer (f : Nat → Int32) (N : Nat) (D : Drf) (e : Nat) : Sum (Nat × Nat) (Nat × Drf) := if nmAt f N e then (match bea D (tkW f N e) with
  | some _ => .inl (3, tkS f N e)
  | none => match kdAt f N (tkE f N e) with
    | none => .inl (1, tkS f N (tkE f N e))
    | some k => match pt f N kHas 99 (tkE f N (tkE f N e)) with
      | .inl x => .inl x
      | .inr y => match pt f N kDies 100 y.1 with
        | .inl x => .inl x
        | .inr z => .inr (z.1, (sPer (dC D) k y.2 z.2, upN (dN D) (pe (dC D)) (tkW f N e), dB D))) else .inl (1, tkS f N e)
def lNear (f : Nat → Int32) (N : Nat) (D : Drf) (e : Nat) : Sum (Nat × Nat) (Nat × Drf) := match pAt f N D e with
  | .inl x => .inl x
  | .inr p => match pAt f N D (tkE f N e) with
    | .inl x => .inl x
    | .inr q => if q = p ∨ tb (nr (dC D) p) q = true then .inl (3, tkS f N (tkE f N e)) else .inr (tkE f N (tkE f N e), (sNear (dC D) p q, dN D, dB D))
def lPair (f : Nat → Int32) (N : Nat) (D : Drf) (e : Nat) : Sum (Nat × Nat) (Nat × Nat × Nat) := match pAt f N D e with
  | .inl x => .inl x
  | .inr p => if kd (dC D) p = 3 then .inl (7, tkS f N e) else match pAt f N D (tkE f N e) with
    | .inl x => .inl x
    | .inr q => if q = p ∨ (r0 (dC D) p q).isSome = true then .inl (3, tkS f N (tkE f N e)) else if alw (dC D) p q = false then .inl (7, tkS f N (tkE f N e)) else .inr (tkE f N (tkE f N e), p, q)
def lAsk (f : Nat → Int32) (N : Nat) (D : Drf) (e : Nat) : Sum (Nat × Nat) (Nat × Drf) := match lPair f N D e with
  | .inl x => .inl x
  | .inr y => match pt f N kAt (hr0 (dC D)) y.1 with
    | .inl x => .inl x
    | .inr z => .inr (z.1, (sAsk (dC D) y.2.1 y.2.2 z.2, dN D, dB D))
def lHea (f : Nat → Int32) (N : Nat) (D : Drf) (e : Nat) : Sum (Nat × Nat) (Nat × Drf) := match lPair f N D e with
  | .inl x => .inl x
  | .inr y => match pt f N kAt (hr0 (dC D)) y.1 with
    | .inl x => .inl x
    | .inr z => match pt f N kGive 3 z.1 with
      | .inl x => .inl x
      | .inr u => .inr (u.1, (sHea (dC D) y.2.1 y.2.2 z.2 u.2, dN D, dB D))
def lWen (f : Nat → Int32) (N : Nat) (D : Drf) (e : Nat) : Sum (Nat × Nat) (Nat × Drf) := match pAt f N D e with
  | .inl x => .inl x
  | .inr p => if (wn (dC D) p).isSome = true then .inl (3, tkS f N e) else if isW f N kCat (tkE f N e) then .inr (tkE f N (tkE f N e), (sWen (dC D) p none, dN D, dB D)) else match pAt f N D (tkE f N e) with
    | .inl x => .inl x
    | .inr q => if q = p then .inl (3, tkS f N (tkE f N e)) else .inr (tkE f N (tkE f N e), (sWen (dC D) p (some q), dN D, dB D))
def lLine (f : Nat → Int32) (N : Nat) (D : Drf) (e : Nat) : Sum (Nat × Nat) (Nat × Drf) := if isW f N kCity e then (if dB D then .inl (3, tkS f N e) else lHead f N D (tkE f N e)) else if isW f N kPerson e then (if dB D then (if pe (dC D) < 6 then lPer f N D (tkE f N e) else .inl (5, tkS f N e)) else .inl (6, tkS f N e)) else if isW f N kNear e then (if dB D then (if nNe (dC D) < 9 then lNear f N D (tkE f N e) else .inl (5, tkS f N e)) else .inl (6, tkS f N e)) else if isW f N kAsked e then (if dB D then (if nAs (dC D) < 12 then lAsk f N D (tkE f N e) else .inl (5, tkS f N e)) else .inl (6, tkS f N e)) else if isW f N kHeard e then (if dB D then (if nHe (dC D) < 3 then lHea f N D (tkE f N e) else .inl (5, tkS f N e)) else .inl (6, tkS f N e)) else if isW f N kWent e then (if dB D then lWen f N D (tkE f N e) else .inl (6, tkS f N e)) else .inl (1, tkS f N e)
section PURE
variable {f : Nat → Int32} {N e : Nat} {D : Drf}
theorem tkE_b (h : e ≤ N) : e ≤ tkE f N e ∧ tkE f N e ≤ N := by
  have := tk_b (f := f) h
  omega
theorem isW_lt {w : List Nat} (h : e ≤ N) (hw : isW f N w e = true) : e < tkE f N e := by
  unfold isW at hw
  rw [decide_eq_true_eq] at hw
  have h1 := tk_b (f := f) h
  have h2 := h1.2.2.2.2 (by omega) (by omega)
  omega
theorem pt_b {w : List Nat} {m : Nat} {y : Nat × Nat} (h : e ≤ N) (hy : pt f N w m e = .inr y) : e ≤ y.1 ∧ y.1 ≤ N ∧ y.2 ≤ m := by
  unfold pt at hy
  have b1 := tkE_b (f := f) h
  have b2 := tkE_b (f := f) b1.2
  split at hy
  · split at hy
    · split at hy
      · cases hy
        exact ⟨by omega, by omega, by assumption⟩
      · cases hy
    · cases hy
  · cases hy
theorem pAt_p {p : Nat} (h : pAt f N D e = .inr p) : p < pe (dC D) ∧ nmAt f N e = true := by
  unfold pAt at h
  split at h
  · rename_i hn
    cases e2 : bea D (tkW f N e) with
    | none => rw [e2] at h; cases h
    | some q =>
      rw [e2] at h
      cases h
      exact ⟨bea_lt e2, hn⟩
  · cases h
theorem kd_le {k : Nat} (h : kdAt f N e = some k) : k ≤ 3 := by
  unfold kdAt at h
  repeat' split at h
  all_goals first | (cases h; omega) | skip
  cases h
theorem lPair_ok {y : Nat × Nat × Nat} (h : e ≤ N) (hy : lPair f N D e = .inr y) : e ≤ y.1 ∧ y.1 ≤ N ∧ y.2.1 < pe (dC D) ∧ y.2.2 < pe (dC D) ∧ y.2.1 ≠ y.2.2 ∧ r0 (dC D) y.2.1 y.2.2 = none := by
  unfold lPair at hy
  have b1 := tkE_b (f := f) h
  have b2 := tkE_b (f := f) b1.2
  cases e1 : pAt f N D e with
  | inl x => rw [e1] at hy; cases hy
  | inr p =>
    rw [e1] at hy
    simp only at hy
    split at hy
    · cases hy
    · cases e2 : pAt f N D (tkE f N e) with
      | inl x => rw [e2] at hy; cases hy
      | inr q =>
        rw [e2] at hy
        simp only at hy
        split at hy
        · cases hy
        · rename_i hn
          split at hy
          · cases hy
          · cases hy
            refine ⟨by omega, by omega, (pAt_p e1).1, (pAt_p e2).1, fun h => hn (Or.inl h.symm), ?_⟩
            cases e3 : r0 (dC D) p q with
            | none => rfl
            | some z => exact absurd (Or.inr (by rw [e3]; rfl)) hn
theorem lLine_ok {y : Nat × Drf} (hO : OkD D) (h : e ≤ N) (hy : lLine f N D e = .inr y) : e < y.1 ∧ y.1 ≤ N ∧ OkD y.2 := by
  obtain ⟨d1, d2, d3, d4, d5, d6⟩ := id hO
  have b1 := tkE_b (f := f) h
  have b2 := tkE_b (f := f) b1.2
  have b3 := tkE_b (f := f) b2.2
  unfold lLine at hy
  cases i1 : isW f N kCity e
  · rw [i1, if_neg (by simp)] at hy
    cases i2 : isW f N kPerson e
    · rw [i2, if_neg (by simp)] at hy
      cases i3 : isW f N kNear e
      · rw [i3, if_neg (by simp)] at hy
        cases i4 : isW f N kAsked e
        · rw [i4, if_neg (by simp)] at hy
          cases i5 : isW f N kHeard e
          · rw [i5, if_neg (by simp)] at hy
            cases i6 : isW f N kWent e
            · rw [i6, if_neg (by simp)] at hy
              cases hy
            · have hlt := isW_lt h i6
              rw [i6, if_pos rfl] at hy
              cases hb : dB D
              · rw [hb, if_neg (by simp)] at hy; cases hy
              · rw [hb, if_pos rfl] at hy
                unfold lWen at hy
                cases e1 : pAt f N D (tkE f N e) with
                | inl x => rw [e1] at hy; cases hy
                | inr p =>
                  have hp := (pAt_p e1).1
                  rw [e1] at hy
                  simp only at hy
                  split at hy
                  · cases hy
                  · split at hy
                    · cases hy
                      exact ⟨by show e < tkE f N (tkE f N (tkE f N e)); omega, b3.2, sWen_ok d1 hp (fun q hq => by cases hq), d2, d3, d4, d5, fun hf => by rw [show dB (sWen (dC D) p none, dN D, dB D) = dB D from rfl, hb] at hf; cases hf⟩
                    · cases e2 : pAt f N D (tkE f N (tkE f N e)) with
                      | inl x => rw [e2] at hy; cases hy
                      | inr q =>
                        have hq := (pAt_p e2).1
                        rw [e2] at hy
                        simp only at hy
                        split at hy
                        · cases hy
                        · cases hy
                          exact ⟨by show e < tkE f N (tkE f N (tkE f N e)); omega, b3.2, sWen_ok d1 hp (fun z hz => by cases hz; exact hq), d2, d3, d4, d5, fun hf => by rw [show dB (sWen (dC D) p (some q), dN D, dB D) = dB D from rfl, hb] at hf; cases hf⟩
          · have hlt := isW_lt h i5
            rw [i5, if_pos rfl] at hy
            cases hb : dB D
            · rw [hb, if_neg (by simp)] at hy; cases hy
            · rw [hb, if_pos rfl] at hy
              split at hy
              · rename_i hn
                unfold lHea at hy
                cases e1 : lPair f N D (tkE f N e) with
                | inl x => rw [e1] at hy; cases hy
                | inr t =>
                  obtain ⟨p1, p2, p3, p4, p5, p6⟩ := lPair_ok b1.2 e1
                  rw [e1] at hy
                  simp only at hy
                  cases e2 : pt f N kAt (hr0 (dC D)) t.1 with
                  | inl x => rw [e2] at hy; cases hy
                  | inr z =>
                    obtain ⟨q1, q2, q3⟩ := pt_b p2 e2
                    rw [e2] at hy
                    simp only at hy
                    cases e3 : pt f N kGive 3 z.1 with
                    | inl x => rw [e3] at hy; cases hy
                    | inr u =>
                      obtain ⟨u1, u2, u3⟩ := pt_b q2 e3
                      rw [e3] at hy
                      simp only at hy
                      cases hy
                      obtain ⟨k1, k2⟩ := sHea_ok (g := u.2) d1 d2 p3 p4 p5 q3 u3 hn p6
                      exact ⟨by show e < u.1; omega, u2, k1, k2, d3, d4, d5, fun hf => by rw [show dB (sHea (dC D) t.2.1 t.2.2 z.2 u.2, dN D, dB D) = dB D from rfl, hb] at hf; cases hf⟩
              · cases hy
        · have hlt := isW_lt h i4
          rw [i4, if_pos rfl] at hy
          cases hb : dB D
          · rw [hb, if_neg (by simp)] at hy; cases hy
          · rw [hb, if_pos rfl] at hy
            split at hy
            · rename_i hn
              unfold lAsk at hy
              cases e1 : lPair f N D (tkE f N e) with
              | inl x => rw [e1] at hy; cases hy
              | inr t =>
                obtain ⟨p1, p2, p3, p4, p5, p6⟩ := lPair_ok b1.2 e1
                rw [e1] at hy
                simp only at hy
                cases e2 : pt f N kAt (hr0 (dC D)) t.1 with
                | inl x => rw [e2] at hy; cases hy
                | inr z =>
                  obtain ⟨q1, q2, q3⟩ := pt_b p2 e2
                  rw [e2] at hy
                  simp only at hy
                  cases hy
                  exact ⟨by show e < z.1; omega, q2, sAsk_ok d1 p3 p4 p5 q3, d2, d3, by show nAs (dC D) + 1 ≤ 12; omega, d5, fun hf => by rw [show dB (sAsk (dC D) t.2.1 t.2.2 z.2, dN D, dB D) = dB D from rfl, hb] at hf; cases hf⟩
            · cases hy
      · have hlt := isW_lt h i3
        rw [i3, if_pos rfl] at hy
        cases hb : dB D
        · rw [hb, if_neg (by simp)] at hy; cases hy
        · rw [hb, if_pos rfl] at hy
          split at hy
          · rename_i hn
            unfold lNear at hy
            cases e1 : pAt f N D (tkE f N e) with
            | inl x => rw [e1] at hy; cases hy
            | inr p =>
              have hp := (pAt_p e1).1
              rw [e1] at hy
              simp only at hy
              cases e2 : pAt f N D (tkE f N (tkE f N e)) with
              | inl x => rw [e2] at hy; cases hy
              | inr q =>
                have hq := (pAt_p e2).1
                rw [e2] at hy
                simp only at hy
                split at hy
                · cases hy
                · rename_i hn2
                  cases hy
                  exact ⟨by show e < tkE f N (tkE f N (tkE f N e)); omega, b3.2, sNear_ok d1 hp hq (fun h => hn2 (Or.inl h.symm)), d2, by show nNe (dC D) + 1 ≤ 9; omega, d4, d5, fun hf => by rw [show dB (sNear (dC D) p q, dN D, dB D) = dB D from rfl, hb] at hf; cases hf⟩
          · cases hy
    · have hlt := isW_lt h i2
      rw [i2, if_pos rfl] at hy
      cases hb : dB D
      · rw [hb, if_neg (by simp)] at hy; cases hy
      · rw [hb, if_pos rfl] at hy
        split at hy
        · rename_i hn
          unfold lPer at hy
          cases e0 : nmAt f N (tkE f N e)
          · rw [e0, if_neg (by simp)] at hy; cases hy
          · rw [e0, if_pos rfl] at hy
            have hk1 : tkK f N (tkE f N e) = 1 := by
              unfold nmAt at e0
              rw [Bool.and_eq_true, decide_eq_true_eq] at e0
              exact e0.1
            cases e1 : bea D (tkW f N (tkE f N e)) with
            | some x => rw [e1] at hy; cases hy
            | none =>
              rw [e1] at hy
              simp only at hy
              cases e2 : kdAt f N (tkE f N (tkE f N e)) with
              | none => rw [e2] at hy; cases hy
              | some k =>
                rw [e2] at hy
                simp only at hy
                cases e3 : pt f N kHas 99 (tkE f N (tkE f N (tkE f N e))) with
                | inl x => rw [e3] at hy; cases hy
                | inr t =>
                  obtain ⟨p1, p2, p3⟩ := pt_b b3.2 e3
                  rw [e3] at hy
                  simp only at hy
                  cases e4 : pt f N kDies 100 t.1 with
                  | inl x => rw [e4] at hy; cases hy
                  | inr z =>
                    obtain ⟨q1, q2, q3⟩ := pt_b p2 e4
                    rw [e4] at hy
                    simp only at hy
                    cases hy
                    refine ⟨by show e < z.1; omega, q2, sPer_ok d1 hn (kd_le e2) p3 q3, d2, d3, d4, fun p hp => ?_, fun hf => by rw [show dB (sPer (dC D) k t.2 z.2, upN (dN D) (pe (dC D)) (tkW f N (tkE f N e)), dB D) = dB D from rfl, hb] at hf; cases hf⟩
                    have hp : p < pe (dC D) + 1 := hp
                    show okW (upN (dN D) (pe (dC D)) (tkW f N (tkE f N e)) p)
                    unfold upN
                    by_cases ep : p = pe (dC D)
                    · rw [if_pos ep]
                      exact tkW_ok b1.2 hk1
                    · rw [if_neg ep]
                      exact d5 p (by omega)
        · cases hy
  · have hlt := isW_lt h i1
    rw [i1, if_pos rfl] at hy
    cases hb : dB D
    · rw [hb, if_neg (by simp)] at hy
      unfold lHead at hy
      cases e1 : pt f N kHour 99 (tkE f N e) with
      | inl x => rw [e1] at hy; cases hy
      | inr t =>
        obtain ⟨p1, p2, p3⟩ := pt_b b1.2 e1
        rw [e1] at hy
        simp only at hy
        cases e2 : pt f N kGives 9 t.1 with
        | inl x => rw [e2] at hy; cases hy
        | inr z =>
          obtain ⟨q1, q2, q3⟩ := pt_b p2 e2
          rw [e2] at hy
          simp only at hy
          cases hy
          exact ⟨by show e < z.1; omega, q2, sHead_ok d1 (d6 hb).1 p3 q3, d2, d3, d4, d5, fun hf => by cases hf⟩
    · rw [hb, if_pos rfl] at hy; cases hy
end PURE
