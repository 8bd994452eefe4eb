/-! a run whose references lie in a closed set of cells writes only there -/
def xIn (P : Nat → Prop) (v : Value) : Prop := ∀ a, v = .ref a → P a
def xAll (P : Nat → Prop) (l : List Value) : Prop := ∀ v ∈ l, xIn P v
def xCl (P : Nat → Prop) (σ : xM) : Prop := ∀ a i b, P a → mR σ a i = some b → P b
def xSame (P : Nat → Prop) (σ σ' : xM) : Prop := ∀ a, ¬ P a → mK σ' a = mK σ a ∧ mL σ' a = mL σ a ∧ mI σ' a = mI σ a ∧ mJ σ' a = mJ σ a ∧ mR σ' a = mR σ a
section RG
variable {P : Nat → Prop}
theorem xin_int {x : Int32} : xIn P (.int x) := fun _ h => by cases h
theorem xin_long {x : Int64} : xIn P (.long x) := fun _ h => by cases h
theorem xin_float {x : UInt32} : xIn P (.float x) := fun _ h => by cases h
theorem xin_null : xIn P .null := fun _ h => by cases h
theorem xin_ra {x : Nat} : xIn P (.retAddr x) := fun _ h => by cases h
theorem xin_ref {a : Nat} (h : P a) : xIn P (.ref a) := fun b hb => by cases hb; exact h
theorem xin_rv {r : Option Nat} (h : ∀ b, r = some b → P b) : xIn P (xrv r) := by
  cases r with
  | none => exact xin_null
  | some b => exact xin_ref (h b rfl)
theorem xa_nil : xAll P [] := fun _ h => by cases h
theorem xa_cons {v : Value} {l : List Value} (h : xIn P v) (hl : xAll P l) : xAll P (v :: l) := fun w hw => by
  rcases List.mem_cons.mp hw with rfl | hw
  · exact h
  · exact hl w hw
theorem xa_hd {v : Value} {l : List Value} (h : xAll P (v :: l)) : xIn P v := h v List.mem_cons_self
theorem xa_tl {v : Value} {l : List Value} (h : xAll P (v :: l)) : xAll P l := fun w hw => h w (List.mem_cons_of_mem _ hw)
theorem xa_set {v : Value} {l : List Value} {i : Nat} (h : xIn P v) (hl : xAll P l) : xAll P (l.set i v) := fun w hw => by
  rcases List.mem_or_eq_of_mem_set hw with hw | rfl
  · exact hl w hw
  · exact h
theorem xa_app {l r : List Value} (hl : xAll P l) (hr : xAll P r) : xAll P (l ++ r) := fun w hw => (List.mem_append.mp hw).elim (hl w) (hr w)
theorem xs_rf {σ : xM} : xSame P σ σ := fun _ _ => ⟨rfl, rfl, rfl, rfl, rfl⟩
theorem xs_tr {σ σ1 σ2 : xM} (h1 : xSame P σ σ1) (h2 : xSame P σ1 σ2) : xSame P σ σ2 := fun a ha => by
  obtain ⟨a1, a2, a3, a4, a5⟩ := h1 a ha
  obtain ⟨b1, b2, b3, b4, b5⟩ := h2 a ha
  exact ⟨b1.trans a1, b2.trans a2, b3.trans a3, b4.trans a4, b5.trans a5⟩
theorem xs_I {σ : xM} {a : Nat} {f : Nat → Int32} (h : P a) : xSame P σ (sI σ (va_up (mI σ) a f)) := fun b hb => ⟨rfl, rfl, va_up_ne _ _ (fun e => hb (e ▸ h)), rfl, rfl⟩
theorem xs_J {σ : xM} {a : Nat} {f : Nat → Int64} (h : P a) : xSame P σ (sJ σ (va_up (mJ σ) a f)) := fun b hb => ⟨rfl, rfl, rfl, va_up_ne _ _ (fun e => hb (e ▸ h)), rfl⟩
theorem xs_R {σ : xM} {a : Nat} {f : Nat → Option Nat} (h : P a) : xSame P σ (sR σ (va_up (mR σ) a f)) := fun b hb => ⟨rfl, rfl, rfl, rfl, va_up_ne _ _ (fun e => hb (e ▸ h))⟩
theorem xc_R {σ : xM} {a i : Nat} {v : Option Nat} (h : ∀ b, v = some b → P b) (hc : xCl P σ) : xCl P (sR σ (up2 (mR σ) a i v)) := by
  intro a' i' b ha' hb
  have hb : up2 (mR σ) a i v a' i' = some b := hb
  by_cases e : a' = a
  · subst e
    rw [up2_self] at hb
    by_cases e2 : i' = i
    · subst e2
      rw [va_up_self] at hb
      exact h b hb
    · rw [va_up_ne _ _ e2] at hb
      exact hc _ _ _ ha' hb
  · rw [up2_ne _ _ _ e] at hb
    exact hc _ _ _ ha' hb
theorem xsm_new {σ : xM} {c n u : Nat} (h : P (mN σ)) : xSame P σ (sNew σ c n u) := fun b hb => by
  have e : b ≠ mN σ := fun e => hb (e ▸ h)
  exact ⟨va_up_ne _ _ e, va_up_ne _ _ e, va_up_ne _ _ e, va_up_ne _ _ e, va_up_ne _ _ e⟩
theorem xc_new {σ : xM} {c n u : Nat} (hc : xCl P σ) : xCl P (sNew σ c n u) := by
  intro a i b ha hb
  have hb : va_up (mR σ) (mN σ) (fun _ => none) a i = some b := hb
  by_cases e : a = mN σ
  · subst e
    rw [va_up_self] at hb
    cases hb
  · rw [va_up_ne _ _ e] at hb
    exact hc _ _ _ ha hb
theorem xfp_reg {σ σ' : xM} {a k t : Nat} {v : Value} (ha : P a) (hv : xIn P v) (hc : xCl P σ) (h : xfp σ a k t v = some σ') : xCl P σ' ∧ xSame P σ σ' := by
  unfold xfp at h
  split at h
  · split at h
    · cases h
      exact ⟨hc, xs_I ha⟩
    · split at h
      · split at h
        · cases h
          exact ⟨hc, xs_I ha⟩
        · cases h
      · cases h
  · split at h
    · cases h
      exact ⟨hc, xs_J ha⟩
    · cases h
  · split at h
    · cases h
      exact ⟨xc_R (fun b hb => by cases hb; exact hv _ rfl) hc, xs_R ha⟩
    · cases h
  · split at h
    · cases h
      exact ⟨xc_R (fun b hb => by cases hb) hc, xs_R ha⟩
    · cases h
  · cases h
set_option maxHeartbeats 4000000 in
theorem xstep_reg {d rn pc : Nat} {i : Instr} {ri : Int32} {rl : Int64} {ls st : List Value} {σ : xM} {x : xSt} (hl : xAll P ls) (hs : xAll P st) (hc : xCl P σ) (h : xstep d i rn ri rl pc ls st σ = some x) (hN : mN x.2.2.2 = mN σ ∨ P (mN σ)) : xAll P x.2.1 ∧ xAll P x.2.2.1 ∧ xCl P x.2.2.2 ∧ xSame P σ x.2.2.2 := by
  unfold xstep at h
  simp only [Bool.cond_eq_ite] at h
  split at h
  all_goals (try split at h)
  all_goals (try split at h)
  all_goals (try split at h)
  all_goals (try split at h)
  all_goals (try split at h)
  all_goals (try split at h)
  all_goals first
    | (cases h; done)
    | (cases h; exact ⟨hl, xa_cons xin_int hs, hc, xs_rf⟩)
    | (cases h; exact ⟨hl, xa_cons xin_long hs, hc, xs_rf⟩)
    | (cases h; exact ⟨hl, xa_cons xin_float hs, hc, xs_rf⟩)
    | (rename_i hh; cases h; exact ⟨hl, xa_cons (hl _ (List.mem_of_getElem? hh)) hs, hc, xs_rf⟩)
    | (cases h; exact ⟨xa_set xin_int hl, xa_tl hs, hc, xs_rf⟩)
    | (cases h; exact ⟨xa_set (xa_hd hs) hl, xa_tl hs, hc, xs_rf⟩)
    | (cases h; exact ⟨xa_set xin_ra (xa_set xin_long hl), xa_tl hs, hc, xs_rf⟩)
    | (cases h; exact ⟨xa_set xin_int hl, hs, hc, xs_rf⟩)
    | (cases h; exact ⟨hl, xa_cons xin_int (xa_tl (xa_tl hs)), hc, xs_rf⟩)
    | (cases h; exact ⟨hl, xa_cons xin_long (xa_tl (xa_tl hs)), hc, xs_rf⟩)
    | (cases h; exact ⟨hl, xa_cons xin_int (xa_tl hs), hc, xs_rf⟩)
    | (cases h; exact ⟨hl, xa_cons xin_long (xa_tl hs), hc, xs_rf⟩)
    | (cases h; exact ⟨hl, xa_cons (xa_hd hs) hs, hc, xs_rf⟩)
    | (cases h; exact ⟨hl, xa_cons (xa_hd hs) (xa_cons (xa_hd (xa_tl hs)) hs), hc, xs_rf⟩)
    | (cases h; exact ⟨hl, xa_tl hs, hc, xs_rf⟩)
    | (cases h; exact ⟨hl, xa_tl (xa_tl hs), hc, xs_rf⟩)
    | (cases h; exact ⟨hl, hs, hc, xs_rf⟩)
    | (cases h; refine ⟨hl, xa_cons ?_ (xa_tl hs), hc, xs_rf⟩; unfold xfg; split; exact xin_long; split; exact xin_rv (fun b hb => hc _ _ _ (xa_hd hs _ rfl) hb); exact xin_int)
    | (rename_i hfp; cases h; obtain ⟨g1, g2⟩ := xfp_reg (xa_hd (xa_tl hs) _ rfl) (xa_hd hs) hc hfp; exact ⟨hl, xa_tl (xa_tl hs), g1, g2⟩)
    | (cases h; exact ⟨hl, xa_cons (xin_rv (fun b hb => hc _ _ _ (xa_hd (xa_tl hs) _ rfl) hb)) (xa_tl (xa_tl hs)), hc, xs_rf⟩)
    | (cases h; exact ⟨hl, xa_tl (xa_tl (xa_tl hs)), hc, xs_I (xa_hd (xa_tl (xa_tl hs)) _ rfl)⟩)
    | (cases h; exact ⟨hl, xa_tl (xa_tl (xa_tl hs)), hc, xs_J (xa_hd (xa_tl (xa_tl hs)) _ rfl)⟩)
    | (cases h; exact ⟨hl, xa_tl (xa_tl (xa_tl hs)), xc_R (fun b hb => by cases hb; exact xa_hd hs _ rfl) hc, xs_R (xa_hd (xa_tl (xa_tl hs)) _ rfl)⟩)
    | (cases h; have hP := hN.resolve_left (fun q => absurd q (Nat.succ_ne_self _)); exact ⟨hl, xa_cons (xin_ref hP) hs, xc_new hc, xsm_new hP⟩)
    | (cases h; have hP := hN.resolve_left (fun q => absurd q (Nat.succ_ne_self _)); exact ⟨hl, xa_cons (xin_ref hP) (xa_tl hs), xc_new hc, xsm_new hP⟩)
    | (cases h; exact ⟨hl, xa_tl (xa_tl (xa_tl (xa_tl (xa_tl hs)))), hc, xs_I (xa_hd (xa_tl (xa_tl hs)) _ rfl)⟩)
theorem xflat_all : ∀ (as : List Value), xAll P as → xAll P (xflat as)
  | [], _ => xa_nil
  | v :: r, h => by
    unfold xflat
    split
    · exact xa_cons (xa_hd h) (xa_cons xin_ra (xflat_all r (xa_tl h)))
    · exact xa_cons (xa_hd h) (xflat_all r (xa_tl h))
theorem xent_all {as : List Value} {ml : Nat} (h : xAll P as) : xAll P (xent as ml) := xa_app (xflat_all as h) (fun v hv => by rw [(List.mem_replicate.mp hv).2]; exact xin_ra)
theorem xargs_all {i : Instr} {k : Nat} {st : List Value} {σ : xM} {ar : List Value × List Value} (hs : xAll P st) (h : xargs i k st σ = some ar) : xAll P ar.1 ∧ xAll P ar.2 := by
  have ht : ∀ n, xAll P ((st.take n).reverse) := fun n v hv => hs v (List.mem_of_mem_take (List.mem_reverse.mp hv))
  have hd : ∀ n, xAll P (st.drop n) := fun n v hv => hs v (List.mem_of_mem_drop hv)
  unfold xargs at h
  simp only [Bool.cond_eq_ite] at h
  split at h
  · split at h
    · rename_i hta
      split at h
      · cases h
        exact ⟨hta ▸ ht _, hd _⟩
      · cases h
    · cases h
  · split at h
    · rename_i hta
      split at h
      · cases h
        exact ⟨hta ▸ ht _, hd _⟩
      · cases h
    · cases h
  · split at h
    · cases h
      exact ⟨ht _, hd _⟩
    · cases h
  · cases h
theorem xret_in {i : Instr} {t : Option FieldType} {st : List Value} {r : Option Value} (hs : xAll P st) (h : xret i t st = some r) : ∀ v, r = some v → xIn P v := by
  unfold xret at h
  split at h
  · cases h; intro v hv; cases hv; exact xin_int
  · split at h
    · cases h; intro v hv; cases hv; exact xin_int
    · cases h
  · cases h; intro v hv; cases hv; exact xin_long
  · cases h; intro v hv; cases hv; exact xa_hd hs
  · cases h; intro v hv; cases hv
  · cases h
theorem xprim_reg {d k : Nat} {as : List Value} {σ : xM} {y : Option Value × xM} (h : xprim d k as σ = some y) : y.2 = σ ∧ ∀ v, y.1 = some v → xIn P v := by
  unfold xprim at h
  rw [Bool.cond_eq_ite] at h
  split at h
  · split at h
    · obtain ⟨w, -, rfl⟩ := Option.map_eq_some_iff.mp h
      exact ⟨rfl, fun v hv => by cases hv; exact xin_long⟩
    · cases h
  · cases h
theorem xprim_pm : xpm xprim := fun d k as σ y h => by
  rw [(xprim_reg (P := fun _ => True) h).1]
  exact ⟨Nat.le_refl _, Nat.le_refl _⟩
/-- THE REGION: class cells stay when the reference runs, and the other way round -/
theorem x_region : ∀ (n d k pc : Nat) (ls st : List Value) (σ : xM) (y : Option Value × xM), xex xprim n d k pc ls st σ = some y → xAll P ls → xAll P st → xCl P σ → (mN y.2 = mN σ ∨ ∀ m, mN σ ≤ m → P m) → xSame P σ y.2 ∧ xCl P y.2 ∧ ∀ v, y.1 = some v → xIn P v := by
  intro n
  induction n with
  | zero => intro d k pc ls st σ y h; cases h
  | succ n ih =>
    intro d k pc ls st σ y h hl hs hc hN
    unfold xex at h
    split at h
    · cases h
    · rename_i en hcode
      split at h
      · rename_i x hx
        have m1 := xstep_mono hx
        have m2 := xex_mono xprim_pm _ _ _ _ _ _ _ _ h
        obtain ⟨g1, g2, g3, g4⟩ := xstep_reg hl hs hc hx (hN.elim (fun q => Or.inl (by omega)) (fun q => Or.inr (q _ (Nat.le_refl _))))
        obtain ⟨k1, k2, k3⟩ := ih _ _ _ _ _ _ _ h g1 g2 g3 (hN.elim (fun q => Or.inl (by omega)) (fun q => Or.inr (fun m hm => q m (by omega))))
        exact ⟨xs_tr g4 k1, k2, k3⟩
      · rename_i hns
        split at h
        · rename_i hr
          cases h
          exact ⟨xs_rf, hc, xret_in hs hr⟩
        · split at h
          · cases h
          · rename_i ar har
            obtain ⟨q1, q2⟩ := xargs_all hs har
            split at h
            · cases h
            · rename_i d'
              rw [Bool.cond_eq_ite] at h
              split at h
              · split at h
                · rename_i y1 hy1
                  have m2 := xex_mono xprim_pm _ _ _ _ _ _ _ _ h
                  cases hp : xprim d' en.2.2.2.1 ar.1 σ with
                  | some y0 =>
                    rw [hp] at hy1
                    cases hy1
                    obtain ⟨e1, e2⟩ := xprim_reg (P := P) hp
                    rw [e1] at h m2
                    have := ih _ _ _ _ _ _ _ h hl (xa_app (fun v hv => e2 v (Option.mem_toList.mp hv)) q2) hc hN
                    exact this
                  | none =>
                    rw [hp] at hy1
                    have m1 := xex_mono xprim_pm _ _ _ _ _ _ _ _ hy1
                    obtain ⟨k1, k2, k3⟩ := ih _ _ _ _ _ _ _ hy1 (xent_all q1) xa_nil hc (hN.elim (fun q => Or.inl (by omega)) Or.inr)
                    obtain ⟨j1, j2, j3⟩ := ih _ _ _ _ _ _ _ h hl (xa_app (fun v hv => k3 v (Option.mem_toList.mp hv)) q2) k2 (hN.elim (fun q => Or.inl (by omega)) (fun q => Or.inr (fun m hm => q m (by omega))))
                    exact ⟨xs_tr k1 j1, j2, j3⟩
                · cases h
              · cases h
end RG
