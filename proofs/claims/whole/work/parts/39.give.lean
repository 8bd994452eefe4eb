/-! STATES: what one gives; the class and the reference -/
def upN {α : Type} (f : Nat → α) (k : Nat) (x : α) : Nat → α := fun j => if j = k then x else f j
/-- p asks o: at most g is given -/
def gvn (s : Sta) (g o : Nat) : Nat := min (hs s o) g
def giv (s : Sta) (g p o : Nat) : Sta := (upN (upN (hs s) o (hs s o - gvn s g o)) p (hs s p + gvn s g o), upN (rg s) p (upN (rg s p) o (some (hr s + 1))), lv s, ct s, hr s + 1, ng s, sd s)
theorem sm_up {f : Nat → Nat} {k x : Nat} : ∀ {n}, k < n → sm (upN f k x) n + f k = sm f n + x := by
  intro n
  induction n with
  | zero => intro h; omega
  | succ n ih =>
    intro h
    simp only [sm]
    by_cases e : k = n
    · subst e
      have : sm (upN f k x) k = sm f k := sm_congr (fun i hi => by unfold upN; rw [if_neg (by omega)])
      rw [this]
      unfold upN
      rw [if_pos rfl]
      omega
    · have h1 := ih (by omega)
      have : upN f k x n = f n := by unfold upN; rw [if_neg (fun h => e h.symm)]
      rw [this]
      omega
theorem giv_ok {n g p o : Nat} {s : Sta} (hk : Ok n s) (hh : hr s + 1 ≤ 2000) (hp : p < n) (ho : o < n) (hpo : p ≠ o) (hpl : tb (lv s) p = true) (hol : tb (lv s) o = true) : Ok n (giv s g p o) := by
  obtain ⟨a1, a2, a3, a4, a5, a6, a7, a8, a9⟩ := hk
  refine ⟨a1, a2, fun q hq hl => ?_, ?_, hh, fun q r h e => ?_, a7, a8, fun q hq => ?_⟩
  · have h1 : q ≠ p := fun e => by rw [e] at hl; exact absurd (hl.symm.trans hpl) (by simp)
    have h2 : q ≠ o := fun e => by rw [e] at hl; exact absurd (hl.symm.trans hol) (by simp)
    show upN (upN (hs s) o _) p _ q = 0
    unfold upN
    rw [if_neg h1, if_neg h2]
    exact a3 q hq hl
  · have e1 := sm_up (f := hs s) (k := o) (x := hs s o - gvn s g o) ho
    have e2 := sm_up (f := upN (hs s) o (hs s o - gvn s g o)) (k := p) (x := hs s p + gvn s g o) hp
    have e3 : upN (hs s) o (hs s o - gvn s g o) p = hs s p := by unfold upN; rw [if_neg hpo]
    have e4 : gvn s g o ≤ hs s o := by unfold gvn; exact Nat.min_le_left _ _
    rw [e3] at e2
    show sm (upN (upN (hs s) o _) p _) n + ct s ≤ 594
    omega
  · have e : upN (rg s) p (upN (rg s p) o (some (hr s + 1))) q r = some h := e
    show h ≤ hr s + 1
    unfold upN at e
    split at e
    · simp only at e
      split at e
      · cases e
        omega
      · have := a6 p r h e
        omega
    · have := a6 q r h e
      omega
  · show upN (rg s) p (upN (rg s p) o (some (hr s + 1))) q q = none
    unfold upN
    split
    · rename_i h
      simp only
      rw [if_neg (by omega), ← h]
      exact a9 q hq
    · exact a9 q hq
theorem minN {a b : Nat} (ha : a < 2 ^ 31) (hb : b < 2 ^ 31) : (if nI a < nI b then nI a else nI b) = nI (min a b) := by
  rw [Nat.min_def]
  by_cases e : a < b
  · rw [if_pos (nI_lt e hb), if_pos (by omega)]
  · rw [if_neg (nI_nlt (by omega) ha)]
    by_cases e2 : a ≤ b
    · rw [if_pos e2, show a = b by omega]
    · rw [if_neg e2]
/-- State.give -/
theorem f49N {σ : xM} {a n g p o : Nat} {s : Sta} (hS : Sh σ) (ha : a ∈ stL) (hc : cS σ a n s) (hk : Ok n s) (hp : p < n) (ho : o < n) (hpo : p ≠ o) (hg : g ≤ 9) : ∃ τ, f49 a (nI p) (nI o) (nI g) σ = some (nI (gvn s g o), τ) ∧ Upd (Pst a) σ τ ∧ cS τ a n (giv s g p o) := by
  obtain ⟨c1, c2, c3, c4, c5, c6, c7⟩ := hc
  have h6 := hk.1
  have hp6 : p < 6 := by omega
  have ho6 : o < 6 := by omega
  have b1 := hk.has ho
  have b2 := hk.has hp
  have e4 : gvn s g o ≤ hs s o := Nat.min_le_left _ _
  let τ1 := wI σ a 0 (nI (hr s + 1))
  let τ2 := wI τ1 (a + 2) (p * 6 + o) (nI (hr s + 1))
  let τ3 := wI τ2 (a + 1) o (nI (hs s o - gvn s g o))
  let τ4 := wI τ3 (a + 1) p (nI (hs s p + gvn s g o))
  have u4 : Upd (Pst a) σ τ4 := (((Upd.refl.wI (Pst_0 a 0)).wI (Pst_2 a _)).wI (Pst_1 a _)).wI (Pst_1 a _)
  refine ⟨τ4, ?_, u4, ?_⟩
  · unfold f49
    have S1 : Sh τ1 := hS
    have S2 : Sh τ2 := hS
    have S3 : Sh τ3 := hS
    have q1 : mI τ1 a 0 = nI (hr s + 1) := by show mI (wI σ a 0 _) a 0 = _; rw [mI_w, if_pos ⟨rfl, rfl⟩]
    have q2 : mI τ2 (a + 1) o = nI (hs s o) := by
      show mI (wI (wI σ a 0 _) (a + 2) _ _) (a + 1) o = _
      rw [mI_w, if_neg (by omega), mI_w, if_neg (by omega)]
      exact c1 o ho
    have q3 : mI τ3 (a + 1) p = nI (hs s p) := by
      show mI (wI (wI (wI σ a 0 _) (a + 2) _ _) (a + 1) o _) (a + 1) p = _
      rw [mI_w, if_neg (by omega), mI_w, if_neg (by omega), mI_w, if_neg (by omega)]
      exact c1 p hp
    simp only [stA hS ha, Option.bind_some, c5, nI_1]
    rw [show wI σ a 0 (nI (hr s + 1)) = τ1 from rfl]
    simp only [stA S1 ha, Option.bind_some, f125_eq, nI_pair, q1, show p * 6 + o < 36 by omega]
    rw [show wI τ1 (a + 2) (p * 6 + o) (nI (hr s + 1)) = τ2 from rfl]
    simp only [stA S2 ha, Option.bind_some, ho6, q2, minN (show hs s o < 2 ^ 31 by omega) (show g < 2 ^ 31 by omega)]
    rw [show nI (hs s o) - nI (min (hs s o) g) = nI (hs s o - gvn s g o) from pk_sub e4]
    rw [show wI τ2 (a + 1) o (nI (hs s o - gvn s g o)) = τ3 from rfl]
    simp only [stA S3 ha, Option.bind_some, hp6, q3, nI_add]
    rfl
  · refine ⟨fun q hq => ?_, fun q hq r hr6 => ?_, ?_, ?_, ?_, ?_, ?_⟩
    · show mI (wI (wI (wI (wI σ a 0 _) (a + 2) _ _) (a + 1) o _) (a + 1) p _) (a + 1) q = nI (upN (upN (hs s) o _) p _ q)
      unfold upN
      rw [mI_w]
      by_cases e : q = p
      · rw [if_pos ⟨rfl, e⟩, if_pos e]
      · rw [if_neg (fun h => e h.2), if_neg e, mI_w]
        by_cases e2 : q = o
        · rw [if_pos ⟨rfl, e2⟩, if_pos e2]
        · rw [if_neg (fun h => e2 h.2), if_neg e2, mI_w, if_neg (by omega), mI_w, if_neg (by omega)]
          exact c1 q hq
    · show mI (wI (wI (wI (wI σ a 0 _) (a + 2) _ _) (a + 1) o _) (a + 1) p _) (a + 2) (q * 6 + r) = rC (upN (rg s) p (upN (rg s p) o (some (hr s + 1))) q r)
      rw [mI_w, if_neg (by omega), mI_w, if_neg (by omega), mI_w]
      unfold upN
      by_cases e : q = p
      · rw [if_pos e]
        simp only
        by_cases e2 : r = o
        · rw [if_pos (by simp [e, e2]), if_pos e2]
          rfl
        · rw [if_neg (by omega), if_neg e2, mI_w, if_neg (by omega), ← e]
          exact c2 q hq r hr6
      · rw [if_neg (by omega), if_neg e, mI_w, if_neg (by omega)]
        exact c2 q hq r hr6
    all_goals
      show mI (wI (wI (wI (wI σ a 0 _) (a + 2) _ _) (a + 1) o _) (a + 1) p _) a _ = _
      rw [mI_w, if_neg (by omega), mI_w, if_neg (by omega), mI_w, if_neg (by omega), mI_w]
    · rw [if_neg (by omega)]; exact c3
    · rw [if_neg (by omega)]; exact c4
    · rw [if_pos ⟨rfl, rfl⟩]; rfl
    · rw [if_neg (by omega)]; exact c6
    · rw [if_neg (by omega)]; exact c7
