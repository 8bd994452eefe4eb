/-! THE SMALL MACHINE: a memory of cells by numbers (kind, length, ints, longs, references), a step, a run; and its tie to the machine -/
abbrev xM : Type := (Nat → Nat) × (Nat → Nat) × (Nat → Nat → Int32) × (Nat → Nat → Int64) × (Nat → Nat → Option Nat) × Nat × Nat
def mK (σ : xM) : Nat → Nat := σ.1
def mL (σ : xM) : Nat → Nat := σ.2.1
def mI (σ : xM) : Nat → Nat → Int32 := σ.2.2.1
def mJ (σ : xM) : Nat → Nat → Int64 := σ.2.2.2.1
def mR (σ : xM) : Nat → Nat → Option Nat := σ.2.2.2.2.1
def mN (σ : xM) : Nat := σ.2.2.2.2.2.1
def mU (σ : xM) : Nat := σ.2.2.2.2.2.2
def up2 {α : Type} (f : Nat → Nat → α) (a i : Nat) (v : α) : Nat → Nat → α := va_up f a (va_up (f a) i v)
def sI (σ : xM) (f : Nat → Nat → Int32) : xM := (σ.1, σ.2.1, f, σ.2.2.2)
def sJ (σ : xM) (f : Nat → Nat → Int64) : xM := (σ.1, σ.2.1, σ.2.2.1, f, σ.2.2.2.2)
def sR (σ : xM) (f : Nat → Nat → Option Nat) : xM := (σ.1, σ.2.1, σ.2.2.1, σ.2.2.2.1, f, σ.2.2.2.2.2)
/-- a new cell of kind c and length n, u slots -/
def sNew (σ : xM) (c n u : Nat) : xM := (va_up (mK σ) (mN σ) c, va_up (mL σ) (mN σ) n, va_up (mI σ) (mN σ) (fun _ => 0), va_up (mJ σ) (mN σ) (fun _ => 0), va_up (mR σ) (mN σ) (fun _ => none), mN σ + 1, mU σ + u)
/-- where the cells lie, and where the texts do (a text's value in the small machine is a float: its number) -/
abbrev xAd : Type := (Nat → Nat) × (UInt32 → Nat)
def xad (z : Nat) (sa : UInt32 → Nat) : xAd := (fun a => z + a, sa)
def xv (ad : xAd) (v : Value) : Value := match v with
  | .ref a => .ref (ad.1 a)
  | .float b => .ref (ad.2 b)
  | v => v
/-- a reference's value, in the small machine -/
def xrv (r : Option Nat) : Value := match r with
  | none => .null
  | some a => .ref a
theorem xv_rv (ad : xAd) (r : Option Nat) : xv ad (xrv r) = va_rf (r.map ad.1) := by cases r <;> rfl
theorem xv_cat (ad : xAd) (v : Value) : (xv ad v).category = v.category := by cases v <;> rfl
theorem xv_cats (ad : xAd) (st : List Value) : ((st.map (xv ad)).map fun v => v.category).sum = (st.map fun v => v.category).sum := by
  rw [List.map_map]
  congr 1
  exact List.map_congr_left (fun v _ => xv_cat ad v)
-- ===== locals
def xclaim (ad : xAd) (ls : List Value) (i : Nat) : Option (Nat × Value) := match ls[i]? with
  | some (.int x) => some (i, .int x)
  | some (.ref a) => some (i, .ref (ad.1 a))
  | some (.float b) => some (i, .ref (ad.2 b))
  | some .null => some (i, .null)
  | some (.long x) => if ls[i + 1]? = some (.retAddr 1) then some (i, .long x) else none
  | _ => none
def xcl (ad : xAd) (ls : List Value) : List (Nat × Value) := (List.range ls.length).filterMap (xclaim ad ls)
def xL (ad : xAd) (ls : List Value) (arr : Array Slot) (nL : Nat) : Prop := ls.length = nL ∧ lv_has arr nL (xcl ad ls)
theorem xcl_mem {ad : xAd} {ls : List Value} {q : Nat × Value} : q ∈ xcl ad ls ↔ ∃ i, i < ls.length ∧ xclaim ad ls i = some q := by
  simp only [xcl, List.mem_filterMap, List.mem_range]
theorem xcl_of {ad : xAd} {ls : List Value} {i : Nat} {q : Nat × Value} (h : xclaim ad ls i = some q) : q ∈ xcl ad ls := by
  rw [xcl_mem]
  refine ⟨i, ?_, h⟩
  by_cases hi : i < ls.length
  · exact hi
  · have : ls[i]? = none := List.getElem?_eq_none (by omega)
    simp [xclaim, this] at h
theorem xL.int {ad : xAd} {ls : List Value} {arr : Array Slot} {nL i : Nat} {x : Int32} (h : xL ad ls arr nL) (hi : ls[i]? = some (.int x)) : arr[i]? = some (.val (.int x)) :=
  h.2.2.2 (i, .int x) (xcl_of (i := i) (by simp [xclaim, hi]))
theorem xL.ref {ad : xAd} {ls : List Value} {arr : Array Slot} {nL i a : Nat} (h : xL ad ls arr nL) (hi : ls[i]? = some (.ref a)) : arr[i]? = some (.val (.ref (ad.1 a))) :=
  h.2.2.2 (i, .ref (ad.1 a)) (xcl_of (i := i) (by simp [xclaim, hi]))
theorem xL.text {ad : xAd} {ls : List Value} {arr : Array Slot} {nL i : Nat} {b : UInt32} (h : xL ad ls arr nL) (hi : ls[i]? = some (.float b)) : arr[i]? = some (.val (.ref (ad.2 b))) :=
  h.2.2.2 (i, .ref (ad.2 b)) (xcl_of (i := i) (by simp [xclaim, hi]))
theorem xL.null {ad : xAd} {ls : List Value} {arr : Array Slot} {nL i : Nat} (h : xL ad ls arr nL) (hi : ls[i]? = some .null) : arr[i]? = some (.val .null) :=
  h.2.2.2 (i, .null) (xcl_of (i := i) (by simp [xclaim, hi]))
theorem xL.long {ad : xAd} {ls : List Value} {arr : Array Slot} {nL i : Nat} {x : Int64} (h : xL ad ls arr nL) (hi : ls[i]? = some (.long x)) (h2 : ls[i + 1]? = some (.retAddr 1)) : arr[i]? = some (.val (.long x)) :=
  h.2.2.2 (i, .long x) (xcl_of (i := i) (by simp [xclaim, hi, h2]))
theorem xclaim_fst {ad : xAd} {ls : List Value} {i : Nat} {q : Nat × Value} (h : xclaim ad ls i = some q) : q.1 = i := by
  unfold xclaim at h
  split at h <;> first | (cases h; rfl) | (split at h <;> cases h; rfl) | cases h
theorem xclaim_same {ad : xAd} {ls ls' : List Value} {i : Nat} {q : Nat × Value} (h0 : ls'[i]? = ls[i]?) (h1 : ls'[i + 1]? = some (.retAddr 1) → ls[i + 1]? = some (.retAddr 1)) (h : xclaim ad ls' i = some q) : xclaim ad ls i = some q := by
  unfold xclaim at h ⊢
  rw [h0] at h
  split at h <;> try exact h
  split at h
  · rename_i hh
    simp [h1 hh]
    cases h
    rfl
  · cases h
theorem xclaim_cat {ad : xAd} {ls : List Value} {i : Nat} {q : Nat × Value} (h : xclaim ad ls i = some q) (hc : q.2.category = 2) : ls[i + 1]? = some (.retAddr 1) := by
  unfold xclaim at h
  split at h
  all_goals first | (cases h; simp [Value.category] at hc; done) | (cases h; done) | skip
  split at h
  · assumption
  · cases h
/-- storing a value of one word -/
theorem xL_set1 {ad : xAd} {ls : List Value} {arr : Array Slot} {nL i : Nat} {v w : Value} (hw : xclaim ad [w] 0 = some (0, v)) (hl : ls.length = nL) (h : lv_has arr nL ((i, v) :: (xcl ad ls).filter (fun q => !(q.1 == i) && !(q.1 + 1 == i && q.2.category == 2)))) : xL ad (ls.set i w) arr nL := by
  have hwm : ¬ w = .retAddr 1 := by rintro rfl; simp [xclaim] at hw
  have hw2 : w.category ≠ 2 ∧ ∀ l2 : List Value, l2[i]? = some w → xclaim ad l2 i = some (i, v) := by
    cases w <;> simp [xclaim, Value.category] at hw ⊢ <;> subst hw <;> intro l2 h2 <;> simp [h2]
  refine ⟨by simp [hl], h.1, h.2.1, fun q hq => ?_⟩
  obtain ⟨j, hj, hc⟩ := xcl_mem.mp hq
  have e1 := xclaim_fst hc
  by_cases hji : j = i
  · subst hji
    rw [List.length_set] at hj
    have h5 : (ls.set j w)[j]? = some w := by simp [hj]
    rw [hw2.2 _ h5] at hc
    cases hc
    exact h.2.2 _ List.mem_cons_self
  · have h6 : xclaim ad ls j = some q := by
      refine xclaim_same ?_ ?_ hc
      · rw [List.getElem?_set_ne (by omega)]
      · intro h7
        by_cases hj2 : j + 1 = i
        · rw [hj2] at h7
          rw [List.getElem?_set_self (by
            by_cases hh : i < ls.length
            · exact hh
            · rw [List.getElem?_eq_none (by simp; omega)] at h7
              cases h7)] at h7
          cases h7
          exact absurd rfl hwm
        · rwa [List.getElem?_set_ne (by omega)] at h7
    refine h.2.2 q (List.mem_cons_of_mem _ (List.mem_filter.mpr ⟨xcl_of h6, ?_⟩))
    by_cases hj2 : j + 1 = i
    · have : q.2.category ≠ 2 := fun hcat => by
        have h8 := xclaim_cat hc hcat
        rw [hj2] at h8
        by_cases hh : i < ls.length
        · rw [List.getElem?_set_self hh] at h8
          cases h8
          exact absurd rfl hwm
        · rw [List.getElem?_eq_none (by simp; omega)] at h8
          cases h8
      simp [e1, hji, this]
    · simp [e1, hji, hj2]
/-- storing a long -/
theorem xL_set2 {ad : xAd} {ls : List Value} {arr : Array Slot} {nL i : Nat} {x : Int64} (hl : ls.length = nL) (h : lv_has arr nL ((i, Value.long x) :: (xcl ad ls).filter (fun q => !(q.1 == i) && (!(q.1 == i + 1) && !(q.1 + 1 == i && q.2.category == 2))))) : xL ad ((ls.set i (.long x)).set (i + 1) (.retAddr 1)) arr nL := by
  refine ⟨by simp [hl], h.1, h.2.1, fun q hq => ?_⟩
  obtain ⟨j, hj, hc⟩ := xcl_mem.mp hq
  have e1 := xclaim_fst hc
  simp only [List.length_set] at hj
  by_cases hji : j = i
  · subst hji
    have h5 : ((ls.set j (.long x)).set (j + 1) (.retAddr 1))[j]? = some (.long x) := by
      rw [List.getElem?_set_ne (by omega), List.getElem?_set_self hj]
    unfold xclaim at hc
    rw [h5] at hc
    simp only at hc
    split at hc
    · cases hc
      exact h.2.2 _ List.mem_cons_self
    · cases hc
  · by_cases hj1 : j = i + 1
    · subst hj1
      have h5 : ((ls.set i (.long x)).set (i + 1) (.retAddr 1))[i + 1]? = some (.retAddr 1) := by
        rw [List.getElem?_set_self (by simp; omega)]
      unfold xclaim at hc
      rw [h5] at hc
      cases hc
    · have g0 : ((ls.set i (.long x)).set (i + 1) (.retAddr 1))[j]? = ls[j]? := by
        rw [List.getElem?_set_ne (by omega), List.getElem?_set_ne (by omega)]
      by_cases hj2 : j + 1 = i
      · have hn : ¬ ((ls.set i (.long x)).set (i + 1) (.retAddr 1))[j + 1]? = some (.retAddr 1) := by
          rw [hj2, List.getElem?_set_ne (by omega)]
          by_cases hh : i < ls.length
          · rw [List.getElem?_set_self hh]; simp
          · rw [List.getElem?_eq_none (by simp; omega)]; simp
        have h6 : xclaim ad ls j = some q := xclaim_same g0 (fun h7 => absurd h7 hn) hc
        have hcat : q.2.category ≠ 2 := fun hcat => hn (xclaim_cat hc hcat)
        refine h.2.2 q (List.mem_cons_of_mem _ (List.mem_filter.mpr ⟨xcl_of h6, ?_⟩))
        simp [e1, hji, hj1, hcat]
      · have h6 : xclaim ad ls j = some q := by
          refine xclaim_same g0 (fun h7 => ?_) hc
          rwa [List.getElem?_set_ne (by omega), List.getElem?_set_ne (by omega)] at h7
        refine h.2.2 q (List.mem_cons_of_mem _ (List.mem_filter.mpr ⟨xcl_of h6, ?_⟩))
        simp [e1, hji, hj1, hj2]
/-- a method's first locals -/
def xflat : List Value → List Value
  | [] => []
  | v :: r => if v.category = 2 then v :: .retAddr 1 :: xflat r else v :: xflat r
def xent (as : List Value) (ml : Nat) : List Value := xflat as ++ List.replicate (ml - (xflat as).length) (.retAddr 0)
theorem xflat_len (ad : xAd) : ∀ as : List Value, (lg_sl (as.map (xv ad))).length = (xflat as).length
  | [] => rfl
  | v :: r => by
    have ih := xflat_len ad r
    simp only [lg_sl, List.map_cons, List.flatMap_cons, List.length_append, xflat] at ih ⊢
    rw [xv_cat]
    by_cases h : v.category = 2
    · simp only [h, if_true, List.length_cons, List.length_nil]; omega
    · simp only [h, if_false, List.length_cons, List.length_nil]; omega
theorem xclaim_args (ad : xAd) (pad : List Value) (hp : ∀ v ∈ pad, v = .retAddr 0) : ∀ (as pre : List Value) (j : Nat) (q : Nat × Value), pre.length ≤ j → xclaim ad (pre ++ (xflat as ++ pad)) j = some q → q ∈ lv_args pre.length (as.map (xv ad))
  | [], pre, j, q, hj, h => by
    exfalso
    have h2 : ∀ v, (pre ++ (xflat [] ++ pad))[j]? = some v → v = .retAddr 0 := fun v hv => by
      rw [List.getElem?_append_right hj] at hv
      exact hp v (List.mem_of_getElem? hv)
    unfold xclaim at h
    split at h
    all_goals first | (rename_i hh; have := h2 _ hh; simp at this; done) | (cases h; done)
  | v :: r, pre, j, q, hj, h => by
    by_cases hc : v.category = 2
    · have e1 : pre ++ (xflat (v :: r) ++ pad) = (pre ++ [v, .retAddr 1]) ++ (xflat r ++ pad) := by simp [xflat, hc]
      simp only [List.map_cons, lv_args, xv_cat, hc, if_true]
      rcases Nat.lt_or_ge j (pre.length + 2) with h3 | h3
      · rcases Nat.lt_or_ge j (pre.length + 1) with h4 | h4
        · have : j = pre.length := by omega
          subst this
          have e2 : (pre ++ (xflat (v :: r) ++ pad))[pre.length]? = some v := by rw [e1]; simp
          have e3 := xclaim_fst h
          cases v <;> simp [Value.category] at hc
          · unfold xclaim at h
            rw [e2] at h
            simp only at h
            split at h
            · cases h; exact List.mem_cons_self
            · cases h
          · unfold xclaim at h
            rw [e2] at h
            cases h
        · have : j = pre.length + 1 := by omega
          subst this
          have e2 : (pre ++ (xflat (v :: r) ++ pad))[pre.length + 1]? = some (.retAddr 1) := by
            rw [e1, List.getElem?_append_left (by simp), List.getElem?_append_right (by omega)]
            simp
          unfold xclaim at h
          rw [e2] at h
          cases h
      · rw [e1] at h
        have := xclaim_args ad pad hp r (pre ++ [v, .retAddr 1]) j q (by simp; omega) h
        refine List.mem_cons_of_mem _ ?_
        simpa using this
    · have e1 : pre ++ (xflat (v :: r) ++ pad) = (pre ++ [v]) ++ (xflat r ++ pad) := by simp [xflat, hc]
      simp only [List.map_cons, lv_args, xv_cat, hc, if_false]
      rcases Nat.lt_or_ge j (pre.length + 1) with h4 | h4
      · have : j = pre.length := by omega
        subst this
        have e2 : (pre ++ (xflat (v :: r) ++ pad))[pre.length]? = some v := by rw [e1]; simp
        have e3 := xclaim_fst h
        unfold xclaim at h
        rw [e2] at h
        cases v <;> simp [Value.category] at hc <;> simp at h <;> subst h <;> exact List.mem_cons_self
      · rw [e1] at h
        have := xclaim_args ad pad hp r (pre ++ [v]) j q (by simp; omega) h
        refine List.mem_cons_of_mem _ ?_
        simpa using this
theorem xL_ent (ad : xAd) (as : List Value) {ml : Nat} (h : (xflat as).length ≤ ml) : xL ad (xent as ml) ((lg_sl (as.map (xv ad)) ++ List.replicate (ml - (lg_sl (as.map (xv ad))).length) Slot.unset).toArray) ml := by
  have he := lv_entry (as.map (xv ad)) (n := ml) (by rw [xflat_len]; exact h)
  refine ⟨by simp [xent]; omega, he.1, he.2.1, fun q hq => he.2.2 q ?_⟩
  obtain ⟨j, -, hc⟩ := xcl_mem.mp hq
  exact xclaim_args ad (List.replicate (ml - (xflat as).length) (.retAddr 0)) (fun v hv => (List.mem_replicate.mp hv).2) as [] j q (Nat.zero_le _) hc
