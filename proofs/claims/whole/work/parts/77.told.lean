/-! WHAT IS TOLD: size in both, led in the reference, bitCount -/
def aSiz (C : Cty) (s : Sta) (na ni n : Nat) (x : Int32) : Int32 := if x = 0 then nI (hr s) else if x = 1 then nI (gv C) else if x = 2 then nI (pe C) else if x = 3 then nI (nNe C) else if x = 4 then nI (nAs C) else if x = 5 then nI (nHe C) else if x = 6 then nI (nWe C) else if x = 7 then nI (cn (lv s)) else if x = 8 then nI (ng s) else if x = 9 then nI (sd s) else if x = 10 then nI na else if x = 11 then nI ni else if x = 12 then nI n else -1
theorem f273N : ∀ t, t < 64 → ∀ σ, f273 (nI t) σ = some (nI (cn t), σ) := by
  intro t ht σ
  have h : ∀ t, t < 64 → (f273 (nI t) xe0).map Prod.fst = some (nI (cn t)) := by decide +kernel
  have h1 := h t ht
  unfold f273 at h1 ⊢
  have h2 := Option.some.inj h1
  simp only at h2
  rw [h2]
section TOLD
variable {σ : xM} {C : Cty} {s : Sta} {ps im : Nat → Sta} {na ni n c : Nat} {f : Nat → Int32}
def cSc (σ : xM) (C : Cty) : Prop := mI σ 15 0 = nI (hr0 C) ∧ mI σ 15 1 = nI (gv C) ∧ mI σ 15 2 = nI (pe C) ∧ mI σ 15 3 = nI (nNe C) ∧ mI σ 15 4 = nI (nAs C) ∧ mI σ 15 5 = nI (nHe C) ∧ mI σ 15 6 = nI (nWe C)
theorem c112 (hS : Sh σ) (hC : cSc σ C) (hc : cS σ 26 (pe C) s) (hk : Ok (pe C) s) (hP : cP σ (pe C) ps na) (hI : cI σ (pe C) im ni) (hT : cTp σ n f) (x : Int32) : f112 0 x σ = some (aSiz C s na ni n x, σ) := by
  unfold f112 aSiz
  simp only [acC hS, acR hS, acW hS, Option.bind_some, hC.2.1, hC.2.2.1, hC.2.2.2.1, hC.2.2.2.2.1, hC.2.2.2.2.2.1, hC.2.2.2.2.2.2, hc.2.2.1, hc.2.2.2.2.1, hc.2.2.2.2.2.1, hc.2.2.2.2.2.2, f273N _ hk.lv64, hP.2.1, hI.2.1, hT.2.1]
  by_cases e0 : x = 0
  · rw [if_pos e0, if_pos e0]
  rw [if_neg e0, if_neg e0]
  by_cases e1 : x = 1
  · rw [if_pos e1, if_pos e1]
  rw [if_neg e1, if_neg e1]
  by_cases e2 : x = 2
  · rw [if_pos e2, if_pos e2]
  rw [if_neg e2, if_neg e2]
  by_cases e3 : x = 3
  · rw [if_pos e3, if_pos e3]
  rw [if_neg e3, if_neg e3]
  by_cases e4 : x = 4
  · rw [if_pos e4, if_pos e4]
  rw [if_neg e4, if_neg e4]
  by_cases e5 : x = 5
  · rw [if_pos e5, if_pos e5]
  rw [if_neg e5, if_neg e5]
  by_cases e6 : x = 6
  · rw [if_pos e6, if_pos e6]
  rw [if_neg e6, if_neg e6]
  by_cases e7 : x = 7
  · rw [if_pos e7, if_pos e7]
  rw [if_neg e7, if_neg e7]
  by_cases e8 : x = 8
  · rw [if_pos e8, if_pos e8]
  rw [if_neg e8, if_neg e8]
  by_cases e9 : x = 9
  · rw [if_pos e9, if_pos e9]
  rw [if_neg e9, if_neg e9]
  by_cases e10 : x = 10
  · rw [if_pos e10, if_pos e10]
  rw [if_neg e10, if_neg e10]
  by_cases e11 : x = 11
  · rw [if_pos e11, if_pos e11]
  rw [if_neg e11, if_neg e11]
  by_cases e12 : x = 12
  · rw [if_pos e12, if_pos e12]
  rw [if_neg e12, if_neg e12]
/-- nothing is so ahead of the first city -/
def zer (C : Cty) (s : Sta) (na ni : Nat) : Prop := hr s = 0 ∧ gv C = 0 ∧ nNe C = 0 ∧ nAs C = 0 ∧ nHe C = 0 ∧ nWe C = 0 ∧ lv s = 0 ∧ ng s = 0 ∧ sd s = 0 ∧ na = 0 ∧ ni = 0
theorem m271 (h : QM σ C s) (hz : pe C = 0 → zer C s na ni) (hP : mP σ (pe C) ps na) (hI : mIm σ (pe C) im ni) (hT : mTp σ n f) (x : Int32) : f271 102 x σ = some (aSiz C s na ni n x, th σ) := by
  have h1 := QM_upd th_upd h
  obtain ⟨hS1, hk, hv1, hc1⟩ := id h1
  have e6 : mI (th σ) 102 6 = nI n := (th_upd.2.1 102 6 rfl).trans hT.2.1
  have e20 : mI (th σ) 102 20 = nI na := (th_upd.2.1 102 20 rfl).trans hP.2.1
  have e21 : mI (th σ) 102 21 = nI ni := (th_upd.2.1 102 21 rfl).trans hI.2.1
  unfold f271
  simp only [acM h.1, Option.bind_some]
  rw [show wI σ 102 0 0 = th σ from rfl]
  simp only [acM hS1, Option.bind_some, e6, f156N]
  by_cases e12 : x = 12
  · subst e12
    rw [if_pos rfl]
    rfl
  · rw [if_neg e12]
    by_cases ein : x < 0 ∨ 11 < x
    · rw [decide_eq_true ein, if_pos (by rfl)]
      have : aSiz C s na ni n x = -1 := by
        unfold aSiz
        have ne : ∀ y : Int32, 0 ≤ y → y ≤ 11 → x ≠ y := fun y y1 y2 e => by
          subst e
          rcases ein with h | h
          · exact Int32.lt_irrefl (Int32.lt_of_lt_of_le h y1)
          · exact Int32.lt_irrefl (Int32.lt_of_lt_of_le h y2)
        rw [if_neg (ne 0 (by decide) (by decide)), if_neg (ne 1 (by decide) (by decide)), if_neg (ne 2 (by decide) (by decide)), if_neg (ne 3 (by decide) (by decide)), if_neg (ne 4 (by decide) (by decide)), if_neg (ne 5 (by decide) (by decide)), if_neg (ne 6 (by decide) (by decide)), if_neg (ne 7 (by decide) (by decide)), if_neg (ne 8 (by decide) (by decide)), if_neg (ne 9 (by decide) (by decide)), if_neg (ne 10 (by decide) (by decide)), if_neg (ne 11 (by decide) (by decide)), if_neg e12]
      rw [this]
    · rw [decide_eq_false ein, if_neg (by decide)]
      obtain ⟨k, k1, k2, rfl⟩ := okN_of (x := x) (lo_ := 0) (hi := 11) (by decide) (by decide) (show (!decide (x < 0 ∨ 11 < x)) = true by rw [decide_eq_false ein]; rfl)
      rcases hc1 with ⟨a, b⟩ | ⟨a, hO, c, hT', hM⟩
      · obtain ⟨z1, z2, z3, z4, z5, z6, z7, z8, z9, z10, z11⟩ := hz a
        rw [gQ_none hS1 b, Option.bind_some]
        have : aSiz C s na ni n (nI k) = 0 := by
          unfold aSiz
          rw [z1, z2, z3, z4, z5, z6, z7, z8, z9, z10, z11, a]
          rcases (by omega : k = 0 ∨ k = 1 ∨ k = 2 ∨ k = 3 ∨ k = 4 ∨ k = 5 ∨ k = 6 ∨ k = 7 ∨ k = 8 ∨ k = 9 ∨ k = 10 ∨ k = 11) with rfl | rfl | rfl | rfl | rfl | rfl | rfl | rfl | rfl | rfl | rfl | rfl <;> rfl
        rw [this]
      · simp only [acM hS1, acG hT', acT0 hT'.2.1, Option.bind_some, litM, show 42 < 47 by omega, show 44 < 47 by omega, show 45 < 47 by omega, show 46 < 47 by omega, hv1.2.2.1, hv1.2.2.2.2.1, hv1.2.2.2.2.2.1, hv1.2.2.2.2.2.2, hM.1.2.1, hM.1.2.2.1, hM.1.2.2.2.1, hM.1.2.2.2.2.1, hM.1.2.2.2.2.2.1, hM.1.2.2.2.2.2.2, e20, e21, f158N _ hk.lv64]
        unfold aSiz
        rcases (by omega : k = 0 ∨ k = 1 ∨ k = 2 ∨ k = 3 ∨ k = 4 ∨ k = 5 ∨ k = 6 ∨ k = 7 ∨ k = 8 ∨ k = 9 ∨ k = 10 ∨ k = 11) with rfl | rfl | rfl | rfl | rfl | rfl | rfl | rfl | rfl | rfl | rfl | rfl <;> rfl
/-- those who leave to the cat -/
def ledC (s : Sta) (p : Nat) : Bool := tb (lv s) p && decide (hN s p = none)
def ledX (s : Sta) (i : Int32) : Option Nat := fs (fun p => ledC s p && decide (nI (cnF (ledC s) p) = i)) 0 6
def ledI (o : Option Nat) : Int32 := match o with
  | some p => nI p
  | none => 0
def ledT (o : Option Nat) : Int32 := match o with
  | some _ => 0
  | none => 1
theorem m270 (h : QM σ C s) (i : Int32) : ∃ τ, f270 102 i σ = some (ledI (ledX s i), τ) ∧ Upd PmQ σ τ ∧ mI τ 102 0 = ledT (ledX s i) ∧ mI τ 102 1 = mI σ 102 1 ∧ mI τ 102 2 = mI σ 102 2 := by
  have h1 := QM_upd th_upd h
  obtain ⟨hS1, hk, hv1, hc1⟩ := id h1
  have hn6 := hk.1
  have e6 : ledX s i = fs (fun p => ledC s p && decide (nI (cnF (ledC s) p) = i)) 0 (pe C) := by
    have := fs_more (c := fun p => ledC s p && decide (nI (cnF (ledC s) p) = i)) (pe C) (6 - pe C) 0 (fun j h1 h2 => by
      unfold ledC
      rw [tb_lt hk.2.1 (by omega)]
      rfl)
    rw [show pe C + (6 - pe C) = 6 by omega] at this
    exact this
  unfold f270
  simp only [acM h.1, Option.bind_some]
  rw [show wI σ 102 0 0 = th σ from rfl]
  rcases hc1 with ⟨a, b⟩ | ⟨a, hO, c, hT, hM⟩
  · rw [gQ_none hS1 b, Option.bind_some]
    have hx : ledX s i = none := by rw [e6, a]; rfl
    rw [hx]
    refine ⟨wI (th σ) 102 0 1, ?_, th_upd.wI rfl, by rw [mI_w, if_pos ⟨rfl, rfl⟩]; rfl, ?_, ?_⟩
    · unfold f270_18
      show f270_20 (1099 + 1) _ _ _ _ _ = _
      rw [f270_20, gQ_none hS1 b, Option.bind_some]
      unfold f270_75
      simp only [acM hS1, Option.bind_some]
      rfl
    · rw [mI_w, if_neg (by omega)]; unfold th; rw [mI_w, if_neg (by omega)]
    · rw [mI_w, if_neg (by omega)]; unfold th; rw [mI_w, if_neg (by omega)]
  · have hA := wk_AM hT hM hO hv1 hk
    have hfw := f188N (σ := th σ) hS1
    have uw := wk_upd (σ := th σ)
    have hgc : gQ (th σ) 102 9 3 = some (some c) := (acG hT).2
    have hz : mI (wk (th σ)) 102 0 = 0 := (uw.2.1 102 0 rfl).trans th_0
    have h1' : mI (wk (th σ)) 102 1 = mI σ 102 1 := (uw.2.1 102 1 rfl).trans (by unfold th; rw [mI_w, if_neg (by omega)])
    have h2' : mI (wk (th σ)) 102 2 = mI σ 102 2 := (uw.2.1 102 2 rfl).trans (by unfold th; rw [mI_w, if_neg (by omega)])
    have uQ := th_upd.trans (P105_Q uw)
    rw [hgc, Option.bind_some]
    simp only [acM hS1, Option.bind_some, hfw]
    generalize wk (th σ) = ω at hA hfw uw hz h1' h2' uQ
    obtain ⟨hTω, hMω, -, hxω, -⟩ := hA
    have hS2 := hTω.1
    have hl : f270_18 102 i 0 ω = (fun o : Option Nat => match o with
        | some p => some (nI p, ω)
        | none => some (0, wI ω 102 0 1)) (fs (fun p => ledC s p && decide (nI (cnF (ledC s) p) = i)) 0 (pe C)) := by
      unfold f270_18
      have e1 : ∀ m j, j < pe C → f270_20 (m + 1) 102 i (nI (cnF (ledC s) j)) (nI j) ω = if ledC s j = true then (if nI (cnF (ledC s) j) = i then some (nI j, ω) else f270_20 m 102 i (nI (cnF (ledC s) j) + 1) (nI (j + 1)) ω) else f270_20 m 102 i (nI (cnF (ledC s) j)) (nI (j + 1)) ω := fun m j hj => by
        have hj6 : j < 6 := by omega
        rw [f270_20, (acG hTω).2, Option.bind_some]
        unfold f270_69
        simp only [acM hS2, acG hTω, acT0 hTω.2.1, Option.bind_some, hMω.1.2.2.1, f190N hS2 hxω hk hj6, bo_0, f192N hTω hMω.1.2.2.1 hxω hk hj6, nI_1]
        rw [if_neg (nI_ge hj (by omega))]
        unfold ledC
        cases el : tb (lv s) j
        · simp
        · rw [hei_N el]
          simp only [ob_m2 (fun k e => hN_6 s j k e)]
          by_cases eh : hN s j = none
          · simp [eh]
          · simp [eh]
      refine lpE (fun m j => f270_20 m 102 i (nI (cnF (ledC s) j)) (nI j) ω) (pe C) (fun p => ledC s p && decide (nI (cnF (ledC s) p) = i)) (fun o : Option Nat => match o with
        | some p => some (nI p, ω)
        | none => some (0, wI ω 102 0 1)) (fun j hj hc m r hn => ?_) (fun j hj hc m => ?_) (fun m => ?_) (pe C) 1100 0 (by omega) (by omega)
      · have hn : f270_20 m 102 i (nI (cnF (ledC s) (j + 1))) (nI (j + 1)) ω = r := hn
        show f270_20 (m + 1) _ _ _ _ _ = _
        rw [cnF] at hn
        rw [e1 m j hj]
        cases el : ledC s j
        · rw [el] at hn
          simpa using hn
        · rw [el] at hn hc
          have hne : ¬ nI (cnF (ledC s) j) = i := by simpa using hc
          rw [if_pos rfl, if_neg hne, nI_1]
          simpa using hn
      · show f270_20 (m + 1) _ _ _ _ _ = _
        rw [Bool.and_eq_true, decide_eq_true_eq] at hc
        rw [e1 m j hj, if_pos hc.1, if_pos hc.2]
      · show f270_20 (m + 1) _ _ _ _ _ = _
        rw [f270_20, (acG hTω).2, Option.bind_some]
        simp only [acG hTω, acT0 hTω.2.1, Option.bind_some, hMω.1.2.2.1]
        rw [if_pos (nI_le (by omega) (by omega))]
        unfold f270_75
        simp only [acM hS2, Option.bind_some]
    rw [hl, ← e6]
    cases ledX s i with
    | some p => exact ⟨ω, rfl, uQ, hz, h1', h2'⟩
    | none => exact ⟨wI ω 102 0 1, rfl, uQ.wI rfl, by rw [mI_w, if_pos ⟨rfl, rfl⟩]; rfl, by rw [mI_w, if_neg (by omega)]; exact h1', by rw [mI_w, if_neg (by omega)]; exact h2'⟩
end TOLD
