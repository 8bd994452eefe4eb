/-! BOTH: rich and beggar -/
def payC (sh g a o : Int32) : Int32 := if a = 0 then (if g = 0 then 0 else if o = 0 then 1 else 0) else if g = 0 then (if o = 0 then -sh else -1) else (if o = 0 then -2 else 4)
theorem f142_eq (sh g a o : Int32) (σ : xM) : f142 sh g a o σ = some (payC sh g a o, σ) := by
  unfold f142 f142_16 f142_17 f142_32 f142_43 payC
  by_cases h1 : a = 0 <;> by_cases h2 : g = 0 <;> by_cases h3 : o = 0 <;> simp [h1, h2, h3]
def noZ (x : Int32) : Int32 := if x = 0 then 1 else 0
def rsC (sh g a : Int32) : Bool := !decide (payC sh g a 0 < payC sh (noZ g) a 0) && !decide (payC sh g a 1 < payC sh g (noZ a) 1)
theorem f143_eq (sh g a : Int32) (σ : xM) : f143 sh g a σ = some (bo (rsC sh g a), σ) := by
  have e1 : f143 sh g a σ = f143_17 sh g a (noZ g) sh (payC sh g a 0) σ := by
    unfold f143 noZ
    rw [f142_eq, Option.bind_some]
    by_cases h : g = 0 <;> simp [h]
  rw [e1]
  unfold f143_17 f143_54 f143_55 rsC
  rw [f142_eq, Option.bind_some]
  simp only
  by_cases h1 : payC sh g a 0 < payC sh (noZ g) a 0
  · rw [if_pos h1, decide_eq_true h1]
    rfl
  · rw [if_neg h1, decide_eq_false h1, f142_eq, Option.bind_some]
    simp only
    have e2 : (if a = 0 then f143_43 1 g sh (payC sh g a 1) σ else f143_43 0 g sh (payC sh g a 1) σ) = f143_43 (noZ a) g sh (payC sh g a 1) σ := by
      unfold noZ
      by_cases h : a = 0 <;> simp [h]
    rw [e2]
    unfold f143_43 f143_54 f143_55
    rw [f142_eq, Option.bind_some]
    simp only
    by_cases h2 : payC sh g a 1 < payC sh g (noZ a) 1
    · rw [if_pos h2, decide_eq_true h2]
      rfl
    · rw [if_neg h2, decide_eq_false h2]
      rfl
def gJ_ (j : Nat) : Int32 := if j < 2 then 0 else 1
def aJ_ (j : Nat) : Int32 := if j % 2 = 1 then 1 else 0
def rsP (sh : Int32) (j : Nat) : Bool := rsC sh (gJ_ j) (aJ_ j)
theorem rIN {x y : Nat} (hx : x < 2 ^ 31) (h0 : y ≠ 0) (hy : y < 2 ^ 31) : rI (nI x) (nI y) = some (nI (x % y)) := by
  unfold rI
  rw [if_neg (fun h => h0 ((nI_eq hy (by decide)).mp (h.trans nI_0.symm))), pk_rem hx (by omega) hy]
theorem dIN {x y : Nat} (hx : x < 2 ^ 31) (h0 : y ≠ 0) (hy : y < 2 ^ 31) : dI (nI x) (nI y) = some (nI (x / y)) := by
  unfold dI
  rw [if_neg (fun h => h0 ((nI_eq hy (by decide)).mp (h.trans nI_0.symm))), pk_div hx (by omega) hy]
def shOr (n : Nat) (x : Int32) : Int32 := if 0 < n then (if x < 0 ∨ 9 < x then 2 else 0) else 1
def aBeg (n : Nat) (x g a o : Int32) : Int32 × Int32 := if shOr n x = 0 then (payC x g a o, 0) else (-100, shOr n x)
def aRts (n : Nat) (x : Int32) : Int32 × Int32 := if shOr n x = 0 then (nI (sm (fun j => if rsP x j then 1 else 0) 4), 0) else (-1, shOr n x)
def rstV (o : Option Nat) : Int32 := match o with
  | none => -2
  | some j => nI (j / 2 * 10 + j % 2)
def aRst (n : Nat) (x : Int32) : Int32 × Int32 := if shOr n x = 0 then (rstV (fs (rsP x) 0 4), 0) else (-1, shOr n x)
section CLASS
variable {σ : xM} {C : Cty} {s : Sta}
theorem f121N (h : QC σ C s) (x : Int32) : f121 0 x σ = some (shOr (pe C) x, σ) := by
  obtain ⟨hS, hp, hc, hk, hC⟩ := id h
  unfold f121 f121_25 f121_26 shOr
  simp only [acC hS, Option.bind_some, f115_eq hS hk.1 hp, bo_0]
  by_cases e : 0 < pe C
  · rw [if_neg (by simp [e]), if_pos e]
    by_cases e1 : x < 0
    · rw [if_pos e1, if_pos (Or.inl e1)]
    · rw [if_neg e1]
      by_cases e2 : 9 < x
      · rw [if_pos e2, if_pos (Or.inr e2)]
      · rw [if_neg e2, if_neg (fun h => h.elim e1 e2)]
  · rw [if_pos (by simp [e]), if_neg e]
theorem c98 (h : QC σ C s) (x g a o : Int32) : cQ σ (f98 0 x g a o σ) (aBeg (pe C) x g a o) := by
  obtain ⟨hS, hp, hc, hk, hC⟩ := id h
  unfold f98 aBeg
  simp only [acC hS, Option.bind_some, f121N h, f114_eq hS, bo_ref, f142_eq]
  by_cases e : shOr (pe C) x = 0
  · rw [if_pos e, if_pos e, e]
    exact cQ_w
  · rw [if_neg e, if_neg e]
    exact cQ_w
theorem f99N (x : Int32) (σ : xM) : f99_18 1100 x 0 0 σ = some (nI (sm (fun j => if rsP x j then 1 else 0) 4), σ) := by
  refine lp (fun m j => f99_18 m x (nI (sm (fun j => if rsP x j then 1 else 0) j)) (nI j) σ) 4 (fun j hj m r hn => ?_) (fun m => ?_) 4 1100 0 rfl (by omega)
  · simp only [sm] at hn
    show f99_18 (m + 1) _ _ _ _ = _
    have e1 : f99_18 (m + 1) x (nI (sm (fun j => if rsP x j then 1 else 0) j)) (nI j) σ = f99_46 (f99_18 m) x (nI (sm (fun j => if rsP x j then 1 else 0) j)) (nI j) (aJ_ j) (gJ_ j) x σ := by
      rw [f99_18, if_neg (show ¬ (4 : Int32) ≤ nI j from nI_ge (b := 4) hj (by omega))]
      unfold f99_34 gJ_ aJ_
      simp only [show (2 : Int32) = nI 2 from rfl, rIN (show j < 2 ^ 31 by omega) (show 2 ≠ 0 by omega) (by omega), Option.bind_some, nI_ltI (show j < 2 ^ 31 by omega) (show 2 < 2 ^ 31 by omega), show (1 : Int32) = nI 1 from rfl, nI_eq (show j % 2 < 2 ^ 31 by omega) (show 1 < 2 ^ 31 by omega)]
      by_cases h1 : j < 2 <;> by_cases h2 : j % 2 = 1 <;> simp [h1, h2]
    rw [e1]
    unfold f99_46 f99_55
    rw [f143_eq, Option.bind_some]
    simp only [bo_0, nI_1]
    rw [show rsC x (gJ_ j) (aJ_ j) = rsP x j from rfl]
    cases e2 : rsP x j
    · simpa [e2] using hn
    · simpa [e2] using hn
  · show f99_18 (m + 1) _ _ _ _ = _
    rw [f99_18, if_pos (show (4 : Int32) ≤ nI 4 by decide)]
    rfl
theorem c99 (h : QC σ C s) (x : Int32) : cQ σ (f99 0 x σ) (aRts (pe C) x) := by
  obtain ⟨hS, hp, hc, hk, hC⟩ := id h
  unfold f99 aRts
  simp only [acC hS, Option.bind_some, f121N h, f114_eq hS, bo_ref, f99N]
  by_cases e : shOr (pe C) x = 0
  · rw [if_pos e, if_pos e, e]
    exact cQ_w
  · rw [if_neg e, if_neg e]
    exact cQ_w
theorem f100N (x : Int32) (σ : xM) : f100_16 1100 x 0 σ = some (rstV (fs (rsP x) 0 4), σ) := by
  have e1 : ∀ m j, j < 4 → f100_16 (m + 1) x (nI j) σ = f100_44 (f100_16 m) x (nI j) (aJ_ j) (gJ_ j) x σ := fun m j hj => by
    rw [f100_16, if_neg (show ¬ (4 : Int32) ≤ nI j from nI_ge (b := 4) hj (by omega))]
    unfold f100_32 gJ_ aJ_
    simp only [show (2 : Int32) = nI 2 from rfl, rIN (show j < 2 ^ 31 by omega) (show 2 ≠ 0 by omega) (by omega), Option.bind_some, nI_ltI (show j < 2 ^ 31 by omega) (show 2 < 2 ^ 31 by omega), show (1 : Int32) = nI 1 from rfl, nI_eq (show j % 2 < 2 ^ 31 by omega) (show 1 < 2 ^ 31 by omega)]
    by_cases h1 : j < 2 <;> by_cases h2 : j % 2 = 1 <;> simp [h1, h2]
  have e2 : ∀ m j, j < 4 → f100_16 (m + 1) x (nI j) σ = if rsP x j = false then f100_16 m x (nI (j + 1)) σ else some (nI (j / 2 * 10 + j % 2), σ) := fun m j hj => by
    rw [e1 m j hj]
    unfold f100_44
    rw [f143_eq, Option.bind_some]
    simp only [bo_0, nI_1, show (2 : Int32) = nI 2 from rfl, show (10 : Int32) = nI 10 from rfl, rIN (show j < 2 ^ 31 by omega) (show 2 ≠ 0 by omega) (show 2 < 2 ^ 31 by omega), dIN (show j < 2 ^ 31 by omega) (show 2 ≠ 0 by omega) (show 2 < 2 ^ 31 by omega), Option.bind_some, pk_mul, nI_add]
    rfl
  refine lpE (fun m j => f100_16 m x (nI j) σ) 4 (rsP x) (fun o => some (rstV o, σ)) (fun j hj hc m r hn => ?_) (fun j hj hc m => ?_) (fun m => ?_) 4 1100 0 rfl (by omega)
  · show f100_16 (m + 1) _ _ _ = _
    rw [e2 m j hj, if_pos hc]
    exact hn
  · show f100_16 (m + 1) _ _ _ = _
    rw [e2 m j hj, if_neg (by rw [hc]; simp)]
    rfl
  · show f100_16 (m + 1) _ _ _ = _
    rw [f100_16, if_pos (show (4 : Int32) ≤ nI 4 by decide)]
    rfl
theorem c100 (h : QC σ C s) (x : Int32) : cQ σ (f100 0 x σ) (aRst (pe C) x) := by
  obtain ⟨hS, hp, hc, hk, hC⟩ := id h
  unfold f100 aRst
  simp only [acC hS, Option.bind_some, f121N h, f114_eq hS, bo_ref, f100N]
  by_cases e : shOr (pe C) x = 0
  · rw [if_pos e, if_pos e, e]
    exact cQ_w
  · rw [if_neg e, if_neg e]
    exact cQ_w
-- the reference
def ricM (sh g a : Int32) : Int32 := if g = 0 then (if a = 0 then 0 else -sh) else (if a = 0 then 1 else -2)
def begM (g a : Int32) : Int32 := if a = 0 then 0 else if g = 0 then -1 else 4
theorem f248_eq (sh g a : Int32) (σ : xM) : f248 sh g a σ = some (ricM sh g a, σ) := by
  unfold f248 f248_27 ricM
  by_cases h1 : g = 0 <;> by_cases h2 : a = 0 <;> simp [h1, h2]
theorem f249_eq (g a : Int32) (σ : xM) : f249 g a σ = some (begM g a, σ) := by
  unfold f249 f249_17 begM
  by_cases h1 : g = 0 <;> by_cases h2 : a = 0 <;> simp [h1, h2]
theorem pay_M (sh g a o : Int32) : payC sh g a o = if o = 0 then ricM sh g a else begM g a := by
  unfold payC ricM begM
  by_cases h1 : g = 0 <;> by_cases h2 : a = 0 <;> by_cases h3 : o = 0 <;> simp [h1, h2, h3]
theorem f250N (h : QM σ C s) (x : Int32) : f250 102 x (th σ) = some (shOr (pe C) x, th σ) := by
  unfold f250 f250_26 shOr
  by_cases e : 0 < pe C
  · obtain ⟨c, hg, -⟩ := isC h e
    rw [if_pos e, hg, Option.bind_some]
    simp only [f156N, Option.bind_some, bo_0]
    by_cases e1 : x < 0 ∨ 9 < x
    · rw [if_pos (by simp [e1]), if_pos e1]
    · rw [if_neg (by simp [e1]), if_neg e1]
  · rw [if_neg e, noC h e]
    rfl
theorem shOr_le {n : Nat} {x : Int32} : (shOr n x ≤ 0) = (shOr n x = 0) := by
  unfold shOr
  split
  · split <;> simp
  · simp
theorem m251 (h : QM σ C s) (x g a o : Int32) : mQ σ (f251 102 x g a o σ) (aBeg (pe C) x g a o) := by
  have h1 := QM_upd th_upd h
  have hS1 := h1.1
  unfold f251 f251_46 f251_49 aBeg
  simp only [acM h.1, Option.bind_some]
  rw [show wI σ 102 0 0 = th σ from rfl]
  simp only [acM hS1, Option.bind_some, f250N h, shOr_le, f248_eq, f249_eq, f154N hS1]
  by_cases e : shOr (pe C) x = 0
  · rw [if_pos e, if_pos e, pay_M]
    by_cases e1 : o = 0
    · rw [if_pos e1, if_pos e1]
      exact mQ_gd th_upd th_0
    · rw [if_neg e1, if_neg e1]
      exact mQ_gd th_upd th_0
  · rw [if_neg e, if_neg e]
    unfold f152
    simp only [acM hS1, f151N hS1, Option.bind_some]
    exact mQ_gd th_upd th_0
def rsM (sh : Int32) (j : Nat) : Bool := !decide (ricM sh (gJ_ j) (aJ_ j) < ricM sh (noZ (gJ_ j)) (aJ_ j)) && !decide (begM (gJ_ j) (aJ_ j) < begM (gJ_ j) (noZ (aJ_ j)))
theorem rs_M (sh : Int32) (j : Nat) : rsM sh j = rsP sh j := by
  unfold rsM rsP rsC
  rw [pay_M, pay_M, pay_M, pay_M]
  rfl
theorem f252N (sh : Int32) (σ : xM) {j : Nat} (hj : j < 4) : f252 sh (nI j) σ = some (bo (rsP sh j), σ) := by
  have e1 : f252 sh (nI j) σ = f252_23 sh (gJ_ j) (aJ_ j) σ := by
    unfold f252 f252_10 gJ_ aJ_
    simp only [show (2 : Int32) = nI 2 from rfl, rIN (show j < 2 ^ 31 by omega) (show 2 ≠ 0 by omega) (by omega), Option.bind_some, show (1 : Int32) = nI 1 from rfl, nI_leI (show j < 2 ^ 31 by omega) (show 1 < 2 ^ 31 by omega), nI_eq (show j % 2 < 2 ^ 31 by omega) (show 1 < 2 ^ 31 by omega)]
    by_cases h1 : j ≤ 1
    · have h3 : j < 2 := by omega
      by_cases h2 : j % 2 = 1 <;> simp [h1, h2, h3]
    · have h3 : ¬ j < 2 := by omega
      by_cases h2 : j % 2 = 1 <;> simp [h1, h2, h3]
  have e2 : f252 sh (nI j) σ = f252_34 sh (gJ_ j) (aJ_ j) (noZ (gJ_ j)) sh σ := by
    rw [e1]
    unfold f252_23 noZ
    by_cases h : gJ_ j = 0 <;> simp [h]
  rw [e2, ← rs_M]
  unfold f252_34 f252_72 f252_73 rsM
  simp only [f248_eq, Option.bind_some]
  by_cases h1 : ricM sh (gJ_ j) (aJ_ j) < ricM sh (noZ (gJ_ j)) (aJ_ j)
  · rw [if_pos h1, decide_eq_true h1]
    rfl
  · rw [if_neg h1, decide_eq_false h1]
    have e3 : (if aJ_ j = 0 then f252_57 (gJ_ j) (aJ_ j) 1 (gJ_ j) σ else f252_57 (gJ_ j) (aJ_ j) 0 (gJ_ j) σ) = f252_57 (gJ_ j) (aJ_ j) (noZ (aJ_ j)) (gJ_ j) σ := by
      unfold noZ
      by_cases h : aJ_ j = 0 <;> simp [h]
    rw [e3]
    unfold f252_57 f252_72 f252_73
    simp only [f249_eq, Option.bind_some]
    by_cases h2 : begM (gJ_ j) (aJ_ j) < begM (gJ_ j) (noZ (aJ_ j))
    · rw [if_pos h2, decide_eq_true h2]
      rfl
    · rw [if_neg h2, decide_eq_false h2]
      rfl
theorem m253 (h : QM σ C s) (x : Int32) : mQ σ (f253 102 x σ) (aRts (pe C) x) := by
  have h1 := QM_upd th_upd h
  have hS1 := h1.1
  unfold f253 aRts
  simp only [acM h.1, Option.bind_some]
  rw [show wI σ 102 0 0 = th σ from rfl]
  simp only [acM hS1, Option.bind_some, f250N h, shOr_le, f151N hS1]
  by_cases e : shOr (pe C) x = 0
  · rw [if_pos e, if_pos e]
    have hL : f253_26 1100 102 x 0 0 (th σ) = some (nI (sm (fun j => if rsP x j then 1 else 0) 4), gd (th σ) 0) := by
      refine lp (fun m j => f253_26 m 102 x (nI (sm (fun j => if rsP x j then 1 else 0) j)) (nI j) (th σ)) 4 (fun j hj m r hn => ?_) (fun m => ?_) 4 1100 0 rfl (by omega)
      · simp only [sm] at hn
        show f253_26 (m + 1) _ _ _ _ _ = _
        unfold f253_26 f253_47
        rw [if_neg (show ¬ (4 : Int32) ≤ nI j from nI_ge (b := 4) hj (by omega))]
        simp only [f252N x (th σ) hj, Option.bind_some, bo_0, nI_1, Int32.add_zero]
        cases e2 : rsP x j
        · simpa [e2] using hn
        · simpa [e2] using hn
      · show f253_26 (m + 1) _ _ _ _ _ = _
        unfold f253_26 f253_55
        rw [if_pos (show (4 : Int32) ≤ nI 4 by decide)]
        simp only [acM hS1, f154N hS1, Option.bind_some]
    rw [hL]
    exact mQ_gd th_upd th_0
  · rw [if_neg e, if_neg e]
    exact mQ_gd th_upd th_0
theorem m254 (h : QM σ C s) (x : Int32) : mQ σ (f254 102 x σ) (aRst (pe C) x) := by
  have h1 := QM_upd th_upd h
  have hS1 := h1.1
  unfold f254 aRst
  simp only [acM h.1, Option.bind_some]
  rw [show wI σ 102 0 0 = th σ from rfl]
  simp only [acM hS1, Option.bind_some, f250N h, shOr_le, f151N hS1]
  by_cases e : shOr (pe C) x = 0
  · rw [if_pos e, if_pos e]
    have e2 : ∀ m j, j < 4 → f254_23 (m + 1) 102 x (nI j) (th σ) = if rsP x j = false then f254_23 m 102 x (nI (j + 1)) (th σ) else some (nI (j / 2 * 10 + j % 2), gd (th σ) 0) := fun m j hj => by
      rw [f254_23, if_neg (show ¬ (4 : Int32) ≤ nI j from nI_ge (b := 4) hj (by omega))]
      simp only [f252N x (th σ) hj, Option.bind_some, bo_0, nI_1, show (2 : Int32) = nI 2 from rfl, show (10 : Int32) = nI 10 from rfl, rIN (show j < 2 ^ 31 by omega) (show 2 ≠ 0 by omega) (show 2 < 2 ^ 31 by omega), dIN (show j < 2 ^ 31 by omega) (show 2 ≠ 0 by omega) (show 2 < 2 ^ 31 by omega), pk_mul, nI_add, acM hS1, f154N hS1, Nat.mul_comm 10]
    have hL : f254_23 1100 102 x 0 (th σ) = some (rstV (fs (rsP x) 0 4), gd (th σ) 0) := by
      refine lpE (fun m j => f254_23 m 102 x (nI j) (th σ)) 4 (rsP x) (fun o => some (rstV o, gd (th σ) 0)) (fun j hj hc m r hn => ?_) (fun j hj hc m => ?_) (fun m => ?_) 4 1100 0 rfl (by omega)
      · show f254_23 (m + 1) _ _ _ _ = _
        rw [e2 m j hj, if_pos hc]
        exact hn
      · show f254_23 (m + 1) _ _ _ _ = _
        rw [e2 m j hj, if_neg (by rw [hc]; simp)]
        rfl
      · show f254_23 (m + 1) _ _ _ _ = _
        rw [f254_23, if_pos (show (4 : Int32) ≤ nI 4 by decide)]
        unfold f254_57
        simp only [acM hS1, f154N hS1, Option.bind_some]
        rfl
    rw [hL]
    exact mQ_gd th_upd th_0
  · rw [if_neg e, if_neg e]
    exact mQ_gd th_upd th_0
end CLASS
