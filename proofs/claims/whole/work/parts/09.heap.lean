/-! the small machine's memory in the machine's heap; kind 20: an exception that was made (nothing is said of it) -/
abbrev vwC2 : List vw_C := vwCl ++ [("java/util/NoSuchElementException", TX0, 0)]
theorem x_k2 {c : Nat} {q : vw_C} (h : vwCl[c]? = some q) : vwC2[c]? = some q := by
  rw [List.getElem?_append_left (List.getElem?_eq_some_iff.mp h).1]
  exact h
def xfv (ad : xAd) (t : Nat) (i : Int32) (j : Int64) (r : Option Nat) : Value := xv ad (xfg t i j r)
def xcell (cy : Nat → ClassId) (ad : xAd) (c n : Nat) (I : Nat → Int32) (J : Nat → Int64) (R : Nat → Option Nat) : va_E :=
  if c < 10 then .inr (c, (List.range (xNF c)).map (fun k => xfv ad (xT c k) (I k) (J k) (R k)))
  else if c = 20 then .inr (10, [])
  else .inl (cy c, n, if c = 12 then .inr (.inl J) else if c = 13 then .inr (.inr (.inr (.inr (fun i => (R i).map ad.1)))) else .inl I)
def xC (cy : Nat → ClassId) (ad : xAd) (σ : xM) (a : Nat) : va_E := xcell cy ad (mK σ a) (mL σ a) (mI σ a) (mJ σ a) (mR σ a)
def xW (cy : Nat → ClassId) (ad : xAd) (σ : xM) : va_W := (List.range (mN σ)).map (fun a => (ad.1 a, xC cy ad σ a))
def xty (cy : Nat → ClassId) : List (ClassId × FieldType) := [(cy 10, .byte), (cy 11, .int), (cy 12, .long), (cy 13, .object "LastAsked$State")]
theorem xW_at (cy : Nat → ClassId) (ad : xAd) (σ : xM) {a : Nat} (h : a < mN σ) : (xW cy ad σ)[a]? = some (ad.1 a, xC cy ad σ a) := by
  simp [xW, h]
theorem xW_inv {cy : Nat → ClassId} {ad : xAd} {σ : xM} {k : Nat} {q : Nat × va_E} (h : (xW cy ad σ)[k]? = some q) : k < mN σ ∧ q = (ad.1 k, xC cy ad σ k) := by
  have hk : k < mN σ := by
    have := (List.getElem?_eq_some_iff.mp h).1
    simpa [xW] using this
  rw [xW_at cy ad σ hk] at h
  exact ⟨hk, (Option.some.inj h).symm⟩
theorem xW_set {cy : Nat → ClassId} {ad : xAd} {σ σ' : xM} {a : Nat} {e : va_E} (hn : mN σ' = mN σ) (ha : xC cy ad σ' a = e) (ho : ∀ b, b ≠ a → xC cy ad σ' b = xC cy ad σ b) : (xW cy ad σ).set a (ad.1 a, e) = xW cy ad σ' := by
  apply List.ext_getElem?
  intro k
  by_cases hk : k < mN σ
  · rw [xW_at cy ad σ' (by omega)]
    by_cases hka : k = a
    · subst hka
      rw [List.getElem?_set_self (by simpa [xW] using hk), ha]
    · rw [List.getElem?_set_ne (fun h => hka h.symm), xW_at cy ad σ hk, ho k hka]
  · rw [List.getElem?_eq_none (by simp [xW]; omega), List.getElem?_eq_none (by simp [xW]; omega)]
theorem xW_D {cy : Nat → ClassId} {z : Nat} {sa : UInt32 → Nat} {σ : xM} : va_D (fun q => z ≤ q) (xW cy (xad z sa) σ) := by
  refine ⟨fun i j p q hi hj hpq => ?_, fun k q hk => ?_⟩
  · obtain ⟨h1, rfl⟩ := xW_inv hi
    obtain ⟨h2, rfl⟩ := xW_inv hj
    exact Nat.add_left_cancel hpq
  · obtain ⟨h1, rfl⟩ := xW_inv hk
    exact Nat.le_add_right z k
theorem xC_obj {cy : Nat → ClassId} {ad : xAd} {σ : xM} {a c : Nat} (h : mK σ a = c) (hc : c < 10) : xC cy ad σ a = .inr (c, (List.range (xNF c)).map (fun k => xfv ad (xT c k) (mI σ a k) (mJ σ a k) (mR σ a k))) := by
  subst h
  simp [xC, xcell, hc]
theorem xC_I {cy : Nat → ClassId} {ad : xAd} {σ : xM} {a : Nat} (h : mK σ a = 11) : xC cy ad σ a = .inl (cy 11, mL σ a, .inl (mI σ a)) := by simp [xC, xcell, h]
theorem xC_B {cy : Nat → ClassId} {ad : xAd} {σ : xM} {a : Nat} (h : mK σ a = 10) : xC cy ad σ a = .inl (cy 10, mL σ a, .inl (mI σ a)) := by simp [xC, xcell, h]
theorem xC_J {cy : Nat → ClassId} {ad : xAd} {σ : xM} {a : Nat} (h : mK σ a = 12) : xC cy ad σ a = .inl (cy 12, mL σ a, .inr (.inl (mJ σ a))) := by simp [xC, xcell, h]
theorem xC_R {cy : Nat → ClassId} {ad : xAd} {σ : xM} {a : Nat} (h : mK σ a = 13) : xC cy ad σ a = .inl (cy 13, mL σ a, .inr (.inr (.inr (.inr (fun i => (mR σ a i).map ad.1))))) := by simp [xC, xcell, h]
theorem up2_ne {α : Type} (f : Nat → Nat → α) {a b : Nat} (i : Nat) (v : α) (h : b ≠ a) : up2 f a i v b = f b := va_up_ne f _ h
theorem up2_self {α : Type} (f : Nat → Nat → α) (a i : Nat) (v : α) : up2 f a i v a = va_up (f a) i v := va_up_self f a _
theorem xset_map {α : Type} (f : Nat → α) (n k : Nat) (v : α) : ((List.range n).map f).set k v = (List.range n).map (va_up f k v) := by
  apply List.ext_getElem?
  intro j
  by_cases hj : j < n
  · by_cases hk : j = k
    · subst hk
      rw [List.getElem?_set_self (by simpa using hj)]
      simp [hj, va_up_self]
    · rw [List.getElem?_set_ne (fun h => hk h.symm)]
      simp [hj, va_up_ne _ _ hk]
  · rw [List.getElem?_eq_none (by simp; omega), List.getElem?_eq_none (by simp; omega)]
/-- a field written: the cell's list -/
theorem xfp_ok {cy : Nat → ClassId} {ad : xAd} {σ σ' : xM} {a k c t : Nat} {v : Value} (hc : c < 10) (hK : mK σ a = c) (ht : xT c k = t) (h : xfp σ a k t v = some σ') :
    mN σ' = mN σ ∧ mU σ' = mU σ ∧ (∀ b, b ≠ a → xC cy ad σ' b = xC cy ad σ b) ∧ xC cy ad σ' a = .inr (c, ((List.range (xNF c)).map (fun j => xfv ad (xT c j) (mI σ a j) (mJ σ a j) (mR σ a j))).set k (xv ad v)) := by
  unfold xfp at h
  have main : ∀ (σ1 : xM), mK σ1 = mK σ → mL σ1 = mL σ → mN σ1 = mN σ → mU σ1 = mU σ → (∀ b, b ≠ a → mI σ1 b = mI σ b ∧ mJ σ1 b = mJ σ b ∧ mR σ1 b = mR σ b) → (∀ j, xfv ad (xT c j) (mI σ1 a j) (mJ σ1 a j) (mR σ1 a j) = va_up (fun j => xfv ad (xT c j) (mI σ a j) (mJ σ a j) (mR σ a j)) k (xv ad v) j) →
      mN σ1 = mN σ ∧ mU σ1 = mU σ ∧ (∀ b, b ≠ a → xC cy ad σ1 b = xC cy ad σ b) ∧ xC cy ad σ1 a = .inr (c, ((List.range (xNF c)).map (fun j => xfv ad (xT c j) (mI σ a j) (mJ σ a j) (mR σ a j))).set k (xv ad v)) := by
    intro σ1 e1 e2 e3 e4 e5 e6
    refine ⟨e3, e4, fun b hb => ?_, ?_⟩
    · obtain ⟨f1, f2, f3⟩ := e5 b hb
      simp only [xC, e1, e2, f1, f2, f3]
    · rw [xC_obj (by rw [e1]; exact hK) hc, xset_map]
      congr 2
      exact List.map_congr_left (fun j _ => e6 j)
  split at h
  · rename_i x
    split at h
    · cases h
      refine main _ rfl rfl rfl rfl (fun b hb => ⟨up2_ne _ _ _ hb, rfl, rfl⟩) (fun j => ?_)
      show xfv ad (xT c j) (up2 (mI σ) a k x a j) (mJ σ a j) (mR σ a j) = _
      rw [up2_self]
      by_cases hj : j = k
      · subst hj
        rw [va_up_self, va_up_self, ht]
        rename_i h0
        subst h0
        rfl
      · rw [va_up_ne _ _ hj, va_up_ne _ _ hj]
    · split at h
      · split at h
        · cases h
          refine main _ rfl rfl rfl rfl (fun b hb => ⟨up2_ne _ _ _ hb, rfl, rfl⟩) (fun j => ?_)
          show xfv ad (xT c j) (up2 (mI σ) a k x a j) (mJ σ a j) (mR σ a j) = _
          rw [up2_self]
          by_cases hj : j = k
          · subst hj
            rw [va_up_self, va_up_self, ht]
            rename_i h0 _
            subst h0
            rfl
          · rw [va_up_ne _ _ hj, va_up_ne _ _ hj]
        · cases h
      · cases h
  · rename_i x
    split at h
    · cases h
      refine main _ rfl rfl rfl rfl (fun b hb => ⟨rfl, up2_ne _ _ _ hb, rfl⟩) (fun j => ?_)
      show xfv ad (xT c j) (mI σ a j) (up2 (mJ σ) a k x a j) (mR σ a j) = _
      rw [up2_self]
      by_cases hj : j = k
      · subst hj
        rw [va_up_self, va_up_self, ht]
        rename_i h0
        subst h0
        rfl
      · rw [va_up_ne _ _ hj, va_up_ne _ _ hj]
    · cases h
  · rename_i x
    split at h
    · cases h
      refine main _ rfl rfl rfl rfl (fun b hb => ⟨rfl, rfl, up2_ne _ _ _ hb⟩) (fun j => ?_)
      show xfv ad (xT c j) (mI σ a j) (mJ σ a j) (up2 (mR σ) a k (some x) a j) = _
      rw [up2_self]
      by_cases hj : j = k
      · subst hj
        rw [va_up_self, va_up_self, ht]
        rename_i h0
        subst h0
        rfl
      · rw [va_up_ne _ _ hj, va_up_ne _ _ hj]
    · cases h
  · split at h
    · cases h
      refine main _ rfl rfl rfl rfl (fun b hb => ⟨rfl, rfl, up2_ne _ _ _ hb⟩) (fun j => ?_)
      show xfv ad (xT c j) (mI σ a j) (mJ σ a j) (up2 (mR σ) a k none a j) = _
      rw [up2_self]
      by_cases hj : j = k
      · subst hj
        rw [va_up_self, va_up_self, ht]
        rename_i h0
        subst h0
        rfl
      · rw [va_up_ne _ _ hj, va_up_ne _ _ hj]
    · cases h
  · cases h
/-- what a written field's type is -/
theorem xfp_ty {σ σ' : xM} {a k : Nat} {ad : xAd} {ty : FieldType} {v : Value} (h : xfp σ a k (xtc ty) v = some σ') : narrow ty (xv ad v) = xv ad v ∧ fits ty (xv ad v) = true := by
  unfold xfp at h
  split at h
  · rename_i x
    split at h
    · cases ty <;> simp [xtc] at * <;> exact ⟨rfl, rfl⟩
    · split at h
      · split at h
        · rename_i h3
          cases ty <;> simp [xtc] at *
          rcases h3 with rfl | rfl <;> exact ⟨rfl, rfl⟩
        · cases h
      · cases h
  · split at h
    · cases ty <;> simp [xtc] at * <;> exact ⟨rfl, rfl⟩
    · cases h
  · split at h
    · cases ty <;> simp [xtc] at * <;> exact ⟨rfl, rfl⟩
    · cases h
  · split at h
    · cases ty <;> simp [xtc] at * <;> exact ⟨rfl, rfl⟩
    · cases h
  · cases h
theorem xinB_in {i : Int32} {n : Nat} (h : xinB i n = true) : vp_in i n := by
  simp only [xinB, Bool.and_eq_true, Bool.not_eq_true', decide_eq_false_iff_not, Nat.blt_eq] at h
  intro h2
  rcases h2 with h2 | h2
  · exact h.1 h2
  · omega
theorem xW_new {cy : Nat → ClassId} {ad : xAd} {σ : xM} {c n u q : Nat} {e : va_E} (hq : q = ad.1 (mN σ)) (he : e = xcell cy ad c n (fun _ => 0) (fun _ => 0) (fun _ => none)) : xW cy ad σ ++ [(q, e)] = xW cy ad (sNew σ c n u) := by
  subst hq
  have hN : mN (sNew σ c n u) = mN σ + 1 := rfl
  have hnew : xC cy ad (sNew σ c n u) (mN σ) = e := by
    rw [he]
    show xcell cy ad (va_up (mK σ) (mN σ) c (mN σ)) (va_up (mL σ) (mN σ) n (mN σ)) (va_up (mI σ) (mN σ) (fun _ => 0) (mN σ)) (va_up (mJ σ) (mN σ) (fun _ => 0) (mN σ)) (va_up (mR σ) (mN σ) (fun _ => none) (mN σ)) = _
    simp only [va_up_self]
  have hold : ∀ b, b ≠ mN σ → xC cy ad (sNew σ c n u) b = xC cy ad σ b := fun b hb => by
    show xcell cy ad (va_up (mK σ) (mN σ) c b) (va_up (mL σ) (mN σ) n b) (va_up (mI σ) (mN σ) (fun _ => 0) b) (va_up (mJ σ) (mN σ) (fun _ => 0) b) (va_up (mR σ) (mN σ) (fun _ => none) b) = _
    simp only [va_up_ne _ _ hb]
    rfl
  unfold xW
  rw [hN, List.range_succ, List.map_append, List.map_cons, List.map_nil, hnew]
  congr 1
  exact List.map_congr_left (fun b hb => by rw [hold b (by have := List.mem_range.mp hb; omega)])
