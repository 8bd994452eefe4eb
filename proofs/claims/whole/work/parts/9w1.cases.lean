/-! the law's cases -/
section QC
variable {p : Program} {l : Launch} {e : Env} {s : State} {m : MethodId} {below : List Frame} {meth : Method} {c : Code} {Q : State → Prop} {dd : va_G} {cy : Nat → ClassId} {z : Nat} {sa : UInt32 → Nat} {av : Nat → Nat} {b L : Nat} {xs : Nat → Int32} {j : Nat} {σ : xM}
theorem q_1 (C : GC p l s m c dd cy z sa av b L xs) (hW : Wd σ) (hO : gO σ) (hcap : mN σ + 12 ≤ 601024 ∧ mU σ + 98 ≤ 7293034) (hj : j + 5 < L) (kend : ∀ υ, gN σ υ → lW p l e s m below meth c Q dd cy z sa b [] (nI j) 1874 [] υ) : lW p l e s m below meth c Q dd cy z sa b [] (nI j) 329 [] σ := by
  obtain ⟨a, τ, υ, hF, hG, hN1, hN2, hW2⟩ := w65 hW (xs (j + 1))
  have r1 := e65 6 hF
  have r2 := e183 0 hG
  obtain ⟨m1, m2, a1, a2, hgN⟩ := g_pair hW hO r1 r2 hN1 hN2 hW2
  have c2 : mN υ ≤ 601024 ∧ mU υ ≤ 7293034 := by
    obtain ⟨-, -, x1, x2⟩ := hgN
    omega
  have c1 : mN τ ≤ 601024 ∧ mU τ ≤ 7293034 := by omega
  refine g_al1 C (ld2 19 rfl) ?_
  refine g_arg (k := 1) C (by omega) (by decide) (ld2 20 rfl) (ld2 21 rfl) (ld2 22 rfl) (ld2 23 rfl) (ld2 24 rfl) ?_
  refine g_vc (rn := 65) (a := 0) (o := 7) (as := [.int (xs (j + 1))]) (st := []) C (by decide) (by decide) m1 c1 (g_run (as := (.ref 0 :: [.int (xs (j + 1))])) (by decide) (Nat.le_of_ble_eq_true rfl) r1) ⟨rfl, by decide, rfl, by decide, rfl⟩ a1 lk_24 (Nat.le_of_ble_eq_true rfl) (ld2 25 rfl) ?_
  refine g_al2 C (ld2 26 rfl) ?_
  refine g_arg (k := 1) C (by omega) (by decide) (ld2 27 rfl) (ld2 28 rfl) (ld2 29 rfl) (ld3 0 rfl) (ld3 1 rfl) ?_
  refine g_vc (rn := 183) (a := 102) (o := 9) (as := [.int (xs (j + 1))]) (st := [.int a]) C (by decide) (by decide) m2 c2 (g_run (as := (.ref 102 :: [.int (xs (j + 1))])) (by decide) (Nat.le_of_ble_eq_true rfl) r2) ⟨rfl, by decide, rfl, by decide, rfl⟩ a2 lk_27 (Nat.le_of_ble_eq_true rfl) (ld3 2 rfl) ?_
  refine g_eqi C (ld3 3 rfl) (by decide) ?_
  exact kend υ hgN
theorem q_2 (C : GC p l s m c dd cy z sa av b L xs) (hW : Wd σ) (hO : gO σ) (hcap : mN σ + 12 ≤ 601024 ∧ mU σ + 98 ≤ 7293034) (hj : j + 5 < L) (kend : ∀ υ, gN σ υ → lW p l e s m below meth c Q dd cy z sa b [] (nI j) 1874 [] υ) : lW p l e s m below meth c Q dd cy z sa b [] (nI j) 354 [] σ := by
  obtain ⟨a, τ, υ, hF, hG, hN1, hN2, hW2⟩ := w66 hW
  have r1 := e66 13 hF
  have r2 := e184 13 hG
  obtain ⟨m1, m2, a1, a2, hgN⟩ := g_pair hW hO r1 r2 hN1 hN2 hW2
  have c2 : mN υ ≤ 601024 ∧ mU υ ≤ 7293034 := by
    obtain ⟨-, -, x1, x2⟩ := hgN
    omega
  have c1 : mN τ ≤ 601024 ∧ mU τ ≤ 7293034 := by omega
  refine g_al1 C (ld3 4 rfl) ?_
  refine g_vc (rn := 66) (a := 0) (o := 7) (as := []) (st := []) C (by decide) (by decide) m1 c1 (g_run (as := (.ref 0 :: [])) (by decide) (Nat.le_of_ble_eq_true rfl) r1) ⟨rfl, by decide, rfl, by decide, rfl⟩ a1 lk_28 (Nat.le_of_ble_eq_true rfl) (ld3 5 rfl) ?_
  refine g_al2 C (ld3 6 rfl) ?_
  refine g_vc (rn := 184) (a := 102) (o := 9) (as := []) (st := [.int a]) C (by decide) (by decide) m2 c2 (g_run (as := (.ref 102 :: [])) (by decide) (Nat.le_of_ble_eq_true rfl) r2) ⟨rfl, by decide, rfl, by decide, rfl⟩ a2 lk_32 (Nat.le_of_ble_eq_true rfl) (ld3 7 rfl) ?_
  refine g_eqi C (ld3 8 rfl) (by decide) ?_
  exact kend υ hgN
theorem q_3 (C : GC p l s m c dd cy z sa av b L xs) (hW : Wd σ) (hO : gO σ) (hcap : mN σ + 12 ≤ 601024 ∧ mU σ + 98 ≤ 7293034) (hj : j + 5 < L) (kend : ∀ υ, gN σ υ → lW p l e s m below meth c Q dd cy z sa b [] (nI j) 1874 [] υ) : lW p l e s m below meth c Q dd cy z sa b [] (nI j) 367 [] σ := by
  obtain ⟨a, τ, υ, hF, hG, hN1, hN2, hW2⟩ := w67 hW
  have r1 := e67 13 hF
  have r2 := e185 13 hG
  obtain ⟨m1, m2, a1, a2, hgN⟩ := g_pair hW hO r1 r2 hN1 hN2 hW2
  have c2 : mN υ ≤ 601024 ∧ mU υ ≤ 7293034 := by
    obtain ⟨-, -, x1, x2⟩ := hgN
    omega
  have c1 : mN τ ≤ 601024 ∧ mU τ ≤ 7293034 := by omega
  refine g_al1 C (ld3 9 rfl) ?_
  refine g_vc (rn := 67) (a := 0) (o := 7) (as := []) (st := []) C (by decide) (by decide) m1 c1 (g_run (as := (.ref 0 :: [])) (by decide) (Nat.le_of_ble_eq_true rfl) r1) ⟨rfl, by decide, rfl, by decide, rfl⟩ a1 lk_33 (Nat.le_of_ble_eq_true rfl) (ld3 10 rfl) ?_
  refine g_al2 C (ld3 11 rfl) ?_
  refine g_vc (rn := 185) (a := 102) (o := 9) (as := []) (st := [.int a]) C (by decide) (by decide) m2 c2 (g_run (as := (.ref 102 :: [])) (by decide) (Nat.le_of_ble_eq_true rfl) r2) ⟨rfl, by decide, rfl, by decide, rfl⟩ a2 lk_36 (Nat.le_of_ble_eq_true rfl) (ld3 12 rfl) ?_
  refine g_eqi C (ld3 13 rfl) (by decide) ?_
  exact kend υ hgN
theorem q_4 (C : GC p l s m c dd cy z sa av b L xs) (hW : Wd σ) (hO : gO σ) (hcap : mN σ + 12 ≤ 601024 ∧ mU σ + 98 ≤ 7293034) (hj : j + 5 < L) (kend : ∀ υ, gN σ υ → lW p l e s m below meth c Q dd cy z sa b [] (nI j) 1874 [] υ) : lW p l e s m below meth c Q dd cy z sa b [] (nI j) 380 [] σ := by
  obtain ⟨a, τ, υ, hF, hG, hN1, hN2, hW2⟩ := w68 hW (xs (j + 1)) (xs (j + 2))
  have r1 := e68 10 hF
  have r2 := e201 9 hG
  obtain ⟨m1, m2, a1, a2, hgN⟩ := g_pair hW hO r1 r2 hN1 hN2 hW2
  have c2 : mN υ ≤ 601024 ∧ mU υ ≤ 7293034 := by
    obtain ⟨-, -, x1, x2⟩ := hgN
    omega
  have c1 : mN τ ≤ 601024 ∧ mU τ ≤ 7293034 := by omega
  refine g_al1 C (ld3 14 rfl) ?_
  refine g_arg (k := 1) C (by omega) (by decide) (ld3 15 rfl) (ld3 16 rfl) (ld3 17 rfl) (ld3 18 rfl) (ld3 19 rfl) ?_
  refine g_arg (k := 2) C (by omega) (by decide) (ld3 20 rfl) (ld3 21 rfl) (ld3 22 rfl) (ld3 23 rfl) (ld3 24 rfl) ?_
  refine g_vc (rn := 68) (a := 0) (o := 7) (as := [.int (xs (j + 1)), .int (xs (j + 2))]) (st := []) C (by decide) (by decide) m1 c1 (g_run (as := (.ref 0 :: [.int (xs (j + 1)), .int (xs (j + 2))])) (by decide) (Nat.le_of_ble_eq_true rfl) r1) ⟨rfl, by decide, rfl, by decide, rfl⟩ a1 lk_37 (Nat.le_of_ble_eq_true rfl) (ld3 25 rfl) ?_
  refine g_al2 C (ld3 26 rfl) ?_
  refine g_arg (k := 1) C (by omega) (by decide) (ld3 27 rfl) (ld3 28 rfl) (ld3 29 rfl) (ld4 0 rfl) (ld4 1 rfl) ?_
  refine g_arg (k := 2) C (by omega) (by decide) (ld4 2 rfl) (ld4 3 rfl) (ld4 4 rfl) (ld4 5 rfl) (ld4 6 rfl) ?_
  refine g_vc (rn := 201) (a := 102) (o := 9) (as := [.int (xs (j + 1)), .int (xs (j + 2))]) (st := [.int a]) C (by decide) (by decide) m2 c2 (g_run (as := (.ref 102 :: [.int (xs (j + 1)), .int (xs (j + 2))])) (by decide) (Nat.le_of_ble_eq_true rfl) r2) ⟨rfl, by decide, rfl, by decide, rfl⟩ a2 lk_41 (Nat.le_of_ble_eq_true rfl) (ld4 7 rfl) ?_
  refine g_eqi C (ld4 8 rfl) (by decide) ?_
  exact kend υ hgN
theorem q_5 (C : GC p l s m c dd cy z sa av b L xs) (hW : Wd σ) (hO : gO σ) (hcap : mN σ + 12 ≤ 601024 ∧ mU σ + 98 ≤ 7293034) (hj : j + 5 < L) (kend : ∀ υ, gN σ υ → lW p l e s m below meth c Q dd cy z sa b [] (nI j) 1874 [] υ) : lW p l e s m below meth c Q dd cy z sa b [] (nI j) 417 [] σ := by
  obtain ⟨a, τ, υ, hF, hG, hN1, hN2, hW2⟩ := w69 hW (xs (j + 1)) (xs (j + 2))
  have r1 := e69 11 hF
  have r2 := e202 11 hG
  obtain ⟨m1, m2, a1, a2, hgN⟩ := g_pair hW hO r1 r2 hN1 hN2 hW2
  have c2 : mN υ ≤ 601024 ∧ mU υ ≤ 7293034 := by
    obtain ⟨-, -, x1, x2⟩ := hgN
    omega
  have c1 : mN τ ≤ 601024 ∧ mU τ ≤ 7293034 := by omega
  refine g_al1 C (ld4 9 rfl) ?_
  refine g_arg (k := 1) C (by omega) (by decide) (ld4 10 rfl) (ld4 11 rfl) (ld4 12 rfl) (ld4 13 rfl) (ld4 14 rfl) ?_
  refine g_arg (k := 2) C (by omega) (by decide) (ld4 15 rfl) (ld4 16 rfl) (ld4 17 rfl) (ld4 18 rfl) (ld4 19 rfl) ?_
  refine g_vc (rn := 69) (a := 0) (o := 7) (as := [.int (xs (j + 1)), .int (xs (j + 2))]) (st := []) C (by decide) (by decide) m1 c1 (g_run (as := (.ref 0 :: [.int (xs (j + 1)), .int (xs (j + 2))])) (by decide) (Nat.le_of_ble_eq_true rfl) r1) ⟨rfl, by decide, rfl, by decide, rfl⟩ a1 lk_42 (Nat.le_of_ble_eq_true rfl) (ld4 20 rfl) ?_
  refine g_al2 C (ld4 21 rfl) ?_
  refine g_arg (k := 1) C (by omega) (by decide) (ld4 22 rfl) (ld4 23 rfl) (ld4 24 rfl) (ld4 25 rfl) (ld4 26 rfl) ?_
  refine g_arg (k := 2) C (by omega) (by decide) (ld4 27 rfl) (ld4 28 rfl) (ld4 29 rfl) (ld5 0 rfl) (ld5 1 rfl) ?_
  refine g_vc (rn := 202) (a := 102) (o := 9) (as := [.int (xs (j + 1)), .int (xs (j + 2))]) (st := [.int a]) C (by decide) (by decide) m2 c2 (g_run (as := (.ref 102 :: [.int (xs (j + 1)), .int (xs (j + 2))])) (by decide) (Nat.le_of_ble_eq_true rfl) r2) ⟨rfl, by decide, rfl, by decide, rfl⟩ a2 lk_45 (Nat.le_of_ble_eq_true rfl) (ld5 2 rfl) ?_
  refine g_eqi C (ld5 3 rfl) (by decide) ?_
  exact kend υ hgN
theorem q_6 (C : GC p l s m c dd cy z sa av b L xs) (hW : Wd σ) (hO : gO σ) (hcap : mN σ + 12 ≤ 601024 ∧ mU σ + 98 ≤ 7293034) (hj : j + 5 < L) (kend : ∀ υ, gN σ υ → lW p l e s m below meth c Q dd cy z sa b [] (nI j) 1874 [] υ) : lW p l e s m below meth c Q dd cy z sa b [] (nI j) 454 [] σ := by
  obtain ⟨a, τ, υ, hF, hG, hN1, hN2, hW2⟩ := w70 hW (xs (j + 1))
  have r1 := e70 9 hF
  have r2 := e204 10 hG
  obtain ⟨m1, m2, a1, a2, hgN⟩ := g_pair hW hO r1 r2 hN1 hN2 hW2
  have c2 : mN υ ≤ 601024 ∧ mU υ ≤ 7293034 := by
    obtain ⟨-, -, x1, x2⟩ := hgN
    omega
  have c1 : mN τ ≤ 601024 ∧ mU τ ≤ 7293034 := by omega
  refine g_al1 C (ld5 4 rfl) ?_
  refine g_arg (k := 1) C (by omega) (by decide) (ld5 5 rfl) (ld5 6 rfl) (ld5 7 rfl) (ld5 8 rfl) (ld5 9 rfl) ?_
  refine g_vc (rn := 70) (a := 0) (o := 7) (as := [.int (xs (j + 1))]) (st := []) C (by decide) (by decide) m1 c1 (g_run (as := (.ref 0 :: [.int (xs (j + 1))])) (by decide) (Nat.le_of_ble_eq_true rfl) r1) ⟨rfl, by decide, rfl, by decide, rfl⟩ a1 lk_46 (Nat.le_of_ble_eq_true rfl) (ld5 10 rfl) ?_
  refine g_al2 C (ld5 11 rfl) ?_
  refine g_arg (k := 1) C (by omega) (by decide) (ld5 12 rfl) (ld5 13 rfl) (ld5 14 rfl) (ld5 15 rfl) (ld5 16 rfl) ?_
  refine g_vc (rn := 204) (a := 102) (o := 9) (as := [.int (xs (j + 1))]) (st := [.int a]) C (by decide) (by decide) m2 c2 (g_run (as := (.ref 102 :: [.int (xs (j + 1))])) (by decide) (Nat.le_of_ble_eq_true rfl) r2) ⟨rfl, by decide, rfl, by decide, rfl⟩ a2 lk_49 (Nat.le_of_ble_eq_true rfl) (ld5 17 rfl) ?_
  refine g_eqi C (ld5 18 rfl) (by decide) ?_
  exact kend υ hgN
theorem q_7 (C : GC p l s m c dd cy z sa av b L xs) (hW : Wd σ) (hO : gO σ) (hcap : mN σ + 12 ≤ 601024 ∧ mU σ + 98 ≤ 7293034) (hj : j + 5 < L) (kend : ∀ υ, gN σ υ → lW p l e s m below meth c Q dd cy z sa b [] (nI j) 1874 [] υ) : lW p l e s m below meth c Q dd cy z sa b [] (nI j) 479 [] σ := by
  obtain ⟨a, τ, υ, hF, hG, hN1, hN2, hW2⟩ := w71 hW (xs (j + 1))
  have r1 := e71 8 hF
  have r2 := e206 8 hG
  obtain ⟨m1, m2, a1, a2, hgN⟩ := g_pair hW hO r1 r2 hN1 hN2 hW2
  have c2 : mN υ ≤ 601024 ∧ mU υ ≤ 7293034 := by
    obtain ⟨-, -, x1, x2⟩ := hgN
    omega
  have c1 : mN τ ≤ 601024 ∧ mU τ ≤ 7293034 := by omega
  refine g_al1 C (ld5 19 rfl) ?_
  refine g_arg (k := 1) C (by omega) (by decide) (ld5 20 rfl) (ld5 21 rfl) (ld5 22 rfl) (ld5 23 rfl) (ld5 24 rfl) ?_
  refine g_vc (rn := 71) (a := 0) (o := 7) (as := [.int (xs (j + 1))]) (st := []) C (by decide) (by decide) m1 c1 (g_run (as := (.ref 0 :: [.int (xs (j + 1))])) (by decide) (Nat.le_of_ble_eq_true rfl) r1) ⟨rfl, by decide, rfl, by decide, rfl⟩ a1 lk_50 (Nat.le_of_ble_eq_true rfl) (ld5 25 rfl) ?_
  refine g_al2 C (ld5 26 rfl) ?_
  refine g_arg (k := 1) C (by omega) (by decide) (ld5 27 rfl) (ld5 28 rfl) (ld5 29 rfl) (ld6 0 rfl) (ld6 1 rfl) ?_
  refine g_vc (rn := 206) (a := 102) (o := 9) (as := [.int (xs (j + 1))]) (st := [.int a]) C (by decide) (by decide) m2 c2 (g_run (as := (.ref 102 :: [.int (xs (j + 1))])) (by decide) (Nat.le_of_ble_eq_true rfl) r2) ⟨rfl, by decide, rfl, by decide, rfl⟩ a2 lk_53 (Nat.le_of_ble_eq_true rfl) (ld6 2 rfl) ?_
  refine g_eqi C (ld6 3 rfl) (by decide) ?_
  exact kend υ hgN
theorem q_8 (C : GC p l s m c dd cy z sa av b L xs) (hW : Wd σ) (hO : gO σ) (hcap : mN σ + 12 ≤ 601024 ∧ mU σ + 98 ≤ 7293034) (hj : j + 5 < L) (kend : ∀ υ, gN σ υ → lW p l e s m below meth c Q dd cy z sa b [] (nI j) 1874 [] υ) : lW p l e s m below meth c Q dd cy z sa b [] (nI j) 504 [] σ := by
  obtain ⟨a, τ, υ, hF, hG, hN1, hN2, hW2⟩ := w72 hW (xs (j + 1))
  have r1 := e72 8 hF
  have r2 := e207 8 hG
  obtain ⟨m1, m2, a1, a2, hgN⟩ := g_pair hW hO r1 r2 hN1 hN2 hW2
  have c2 : mN υ ≤ 601024 ∧ mU υ ≤ 7293034 := by
    obtain ⟨-, -, x1, x2⟩ := hgN
    omega
  have c1 : mN τ ≤ 601024 ∧ mU τ ≤ 7293034 := by omega
  refine g_al1 C (ld6 4 rfl) ?_
  refine g_arg (k := 1) C (by omega) (by decide) (ld6 5 rfl) (ld6 6 rfl) (ld6 7 rfl) (ld6 8 rfl) (ld6 9 rfl) ?_
  refine g_vc (rn := 72) (a := 0) (o := 7) (as := [.int (xs (j + 1))]) (st := []) C (by decide) (by decide) m1 c1 (g_run (as := (.ref 0 :: [.int (xs (j + 1))])) (by decide) (Nat.le_of_ble_eq_true rfl) r1) ⟨rfl, by decide, rfl, by decide, rfl⟩ a1 lk_54 (Nat.le_of_ble_eq_true rfl) (ld6 10 rfl) ?_
  refine g_al2 C (ld6 11 rfl) ?_
  refine g_arg (k := 1) C (by omega) (by decide) (ld6 12 rfl) (ld6 13 rfl) (ld6 14 rfl) (ld6 15 rfl) (ld6 16 rfl) ?_
  refine g_vc (rn := 207) (a := 102) (o := 9) (as := [.int (xs (j + 1))]) (st := [.int a]) C (by decide) (by decide) m2 c2 (g_run (as := (.ref 102 :: [.int (xs (j + 1))])) (by decide) (Nat.le_of_ble_eq_true rfl) r2) ⟨rfl, by decide, rfl, by decide, rfl⟩ a2 lk_57 (Nat.le_of_ble_eq_true rfl) (ld6 17 rfl) ?_
  refine g_eqi C (ld6 18 rfl) (by decide) ?_
  exact kend υ hgN
theorem q_9 (C : GC p l s m c dd cy z sa av b L xs) (hW : Wd σ) (hO : gO σ) (hcap : mN σ + 12 ≤ 601024 ∧ mU σ + 98 ≤ 7293034) (hj : j + 5 < L) (kend : ∀ υ, gN σ υ → lW p l e s m below meth c Q dd cy z sa b [] (nI j) 1874 [] υ) : lW p l e s m below meth c Q dd cy z sa b [] (nI j) 529 [] σ := by
  obtain ⟨a, τ, υ, hF, hG, hN1, hN2, hW2⟩ := w73 hW
  have r1 := e73 12 hF
  have r2 := e208 12 hG
  obtain ⟨m1, m2, a1, a2, hgN⟩ := g_pair hW hO r1 r2 hN1 hN2 hW2
  have c2 : mN υ ≤ 601024 ∧ mU υ ≤ 7293034 := by
    obtain ⟨-, -, x1, x2⟩ := hgN
    omega
  have c1 : mN τ ≤ 601024 ∧ mU τ ≤ 7293034 := by omega
  refine g_al1 C (ld6 19 rfl) ?_
  refine g_vc (rn := 73) (a := 0) (o := 7) (as := []) (st := []) C (by decide) (by decide) m1 c1 (g_run (as := (.ref 0 :: [])) (by decide) (Nat.le_of_ble_eq_true rfl) r1) ⟨rfl, by decide, rfl, by decide, rfl⟩ a1 lk_58 (Nat.le_of_ble_eq_true rfl) (ld6 20 rfl) ?_
  refine g_al2 C (ld6 21 rfl) ?_
  refine g_vc (rn := 208) (a := 102) (o := 9) (as := []) (st := [.int a]) C (by decide) (by decide) m2 c2 (g_run (as := (.ref 102 :: [])) (by decide) (Nat.le_of_ble_eq_true rfl) r2) ⟨rfl, by decide, rfl, by decide, rfl⟩ a2 lk_61 (Nat.le_of_ble_eq_true rfl) (ld6 22 rfl) ?_
  refine g_eqi C (ld6 23 rfl) (by decide) ?_
  exact kend υ hgN
theorem q_10 (C : GC p l s m c dd cy z sa av b L xs) (hW : Wd σ) (hO : gO σ) (hcap : mN σ + 12 ≤ 601024 ∧ mU σ + 98 ≤ 7293034) (hj : j + 5 < L) (kend : ∀ υ, gN σ υ → lW p l e s m below meth c Q dd cy z sa b [] (nI j) 1874 [] υ) : lW p l e s m below meth c Q dd cy z sa b [] (nI j) 542 [] σ := by
  obtain ⟨a, τ, υ, hF, hG, hN1, hN2, hW2⟩ := w74 hW
  have r1 := e74 11 hF
  have r2 := e209 12 hG
  obtain ⟨m1, m2, a1, a2, hgN⟩ := g_pair hW hO r1 r2 hN1 hN2 hW2
  have c2 : mN υ ≤ 601024 ∧ mU υ ≤ 7293034 := by
    obtain ⟨-, -, x1, x2⟩ := hgN
    omega
  have c1 : mN τ ≤ 601024 ∧ mU τ ≤ 7293034 := by omega
  refine g_al1 C (ld6 24 rfl) ?_
  refine g_vc (rn := 74) (a := 0) (o := 7) (as := []) (st := []) C (by decide) (by decide) m1 c1 (g_run (as := (.ref 0 :: [])) (by decide) (Nat.le_of_ble_eq_true rfl) r1) ⟨rfl, by decide, rfl, by decide, rfl⟩ a1 lk_62 (Nat.le_of_ble_eq_true rfl) (ld6 25 rfl) ?_
  refine g_al2 C (ld6 26 rfl) ?_
  refine g_vc (rn := 209) (a := 102) (o := 9) (as := []) (st := [.int a]) C (by decide) (by decide) m2 c2 (g_run (as := (.ref 102 :: [])) (by decide) (Nat.le_of_ble_eq_true rfl) r2) ⟨rfl, by decide, rfl, by decide, rfl⟩ a2 lk_65 (Nat.le_of_ble_eq_true rfl) (ld6 27 rfl) ?_
  refine g_eqi C (ld6 28 rfl) (by decide) ?_
  exact kend υ hgN
theorem q_11 (C : GC p l s m c dd cy z sa av b L xs) (hW : Wd σ) (hO : gO σ) (hcap : mN σ + 12 ≤ 601024 ∧ mU σ + 98 ≤ 7293034) (hj : j + 5 < L) (kend : ∀ υ, gN σ υ → lW p l e s m below meth c Q dd cy z sa b [] (nI j) 1874 [] υ) : lW p l e s m below meth c Q dd cy z sa b [] (nI j) 555 [] σ := by
  obtain ⟨a, τ, υ, hF, hG, hN1, hN2, hW2⟩ := w75 hW (xs (j + 1)) (xs (j + 2))
  have r1 := e75 9 hF
  have r2 := e211 8 hG
  obtain ⟨m1, m2, a1, a2, hgN⟩ := g_pair hW hO r1 r2 hN1 hN2 hW2
  have c2 : mN υ ≤ 601024 ∧ mU υ ≤ 7293034 := by
    obtain ⟨-, -, x1, x2⟩ := hgN
    omega
  have c1 : mN τ ≤ 601024 ∧ mU τ ≤ 7293034 := by omega
  refine g_al1 C (ld6 29 rfl) ?_
  refine g_arg (k := 1) C (by omega) (by decide) (ld7 0 rfl) (ld7 1 rfl) (ld7 2 rfl) (ld7 3 rfl) (ld7 4 rfl) ?_
  refine g_arg (k := 2) C (by omega) (by decide) (ld7 5 rfl) (ld7 6 rfl) (ld7 7 rfl) (ld7 8 rfl) (ld7 9 rfl) ?_
  refine g_vc (rn := 75) (a := 0) (o := 7) (as := [.int (xs (j + 1)), .int (xs (j + 2))]) (st := []) C (by decide) (by decide) m1 c1 (g_run (as := (.ref 0 :: [.int (xs (j + 1)), .int (xs (j + 2))])) (by decide) (Nat.le_of_ble_eq_true rfl) r1) ⟨rfl, by decide, rfl, by decide, rfl⟩ a1 lk_66 (Nat.le_of_ble_eq_true rfl) (ld7 10 rfl) ?_
  refine g_al2 C (ld7 11 rfl) ?_
  refine g_arg (k := 1) C (by omega) (by decide) (ld7 12 rfl) (ld7 13 rfl) (ld7 14 rfl) (ld7 15 rfl) (ld7 16 rfl) ?_
  refine g_arg (k := 2) C (by omega) (by decide) (ld7 17 rfl) (ld7 18 rfl) (ld7 19 rfl) (ld7 20 rfl) (ld7 21 rfl) ?_
  refine g_vc (rn := 211) (a := 102) (o := 9) (as := [.int (xs (j + 1)), .int (xs (j + 2))]) (st := [.int a]) C (by decide) (by decide) m2 c2 (g_run (as := (.ref 102 :: [.int (xs (j + 1)), .int (xs (j + 2))])) (by decide) (Nat.le_of_ble_eq_true rfl) r2) ⟨rfl, by decide, rfl, by decide, rfl⟩ a2 lk_69 (Nat.le_of_ble_eq_true rfl) (ld7 22 rfl) ?_
  refine g_eqi C (ld7 23 rfl) (by decide) ?_
  exact kend υ hgN
theorem q_12 (C : GC p l s m c dd cy z sa av b L xs) (hW : Wd σ) (hO : gO σ) (hcap : mN σ + 12 ≤ 601024 ∧ mU σ + 98 ≤ 7293034) (hj : j + 5 < L) (kend : ∀ υ, gN σ υ → lW p l e s m below meth c Q dd cy z sa b [] (nI j) 1874 [] υ) : lW p l e s m below meth c Q dd cy z sa b [] (nI j) 592 [] σ := by
  obtain ⟨a, τ, υ, hF, hG, hN1, hN2, hW2⟩ := w76 hW (xs (j + 1)) (xs (j + 2))
  have r1 := e76 9 hF
  have r2 := e212 8 hG
  obtain ⟨m1, m2, a1, a2, hgN⟩ := g_pair hW hO r1 r2 hN1 hN2 hW2
  have c2 : mN υ ≤ 601024 ∧ mU υ ≤ 7293034 := by
    obtain ⟨-, -, x1, x2⟩ := hgN
    omega
  have c1 : mN τ ≤ 601024 ∧ mU τ ≤ 7293034 := by omega
  refine g_al1 C (ld7 24 rfl) ?_
  refine g_arg (k := 1) C (by omega) (by decide) (ld7 25 rfl) (ld7 26 rfl) (ld7 27 rfl) (ld7 28 rfl) (ld7 29 rfl) ?_
  refine g_arg (k := 2) C (by omega) (by decide) (ld8 0 rfl) (ld8 1 rfl) (ld8 2 rfl) (ld8 3 rfl) (ld8 4 rfl) ?_
  refine g_vc (rn := 76) (a := 0) (o := 7) (as := [.int (xs (j + 1)), .int (xs (j + 2))]) (st := []) C (by decide) (by decide) m1 c1 (g_run (as := (.ref 0 :: [.int (xs (j + 1)), .int (xs (j + 2))])) (by decide) (Nat.le_of_ble_eq_true rfl) r1) ⟨rfl, by decide, rfl, by decide, rfl⟩ a1 lk_70 (Nat.le_of_ble_eq_true rfl) (ld8 5 rfl) ?_
  refine g_al2 C (ld8 6 rfl) ?_
  refine g_arg (k := 1) C (by omega) (by decide) (ld8 7 rfl) (ld8 8 rfl) (ld8 9 rfl) (ld8 10 rfl) (ld8 11 rfl) ?_
  refine g_arg (k := 2) C (by omega) (by decide) (ld8 12 rfl) (ld8 13 rfl) (ld8 14 rfl) (ld8 15 rfl) (ld8 16 rfl) ?_
  refine g_vc (rn := 212) (a := 102) (o := 9) (as := [.int (xs (j + 1)), .int (xs (j + 2))]) (st := [.int a]) C (by decide) (by decide) m2 c2 (g_run (as := (.ref 102 :: [.int (xs (j + 1)), .int (xs (j + 2))])) (by decide) (Nat.le_of_ble_eq_true rfl) r2) ⟨rfl, by decide, rfl, by decide, rfl⟩ a2 lk_73 (Nat.le_of_ble_eq_true rfl) (ld8 17 rfl) ?_
  refine g_eqi C (ld8 18 rfl) (by decide) ?_
  exact kend υ hgN
theorem q_13 (C : GC p l s m c dd cy z sa av b L xs) (hW : Wd σ) (hO : gO σ) (hcap : mN σ + 12 ≤ 601024 ∧ mU σ + 98 ≤ 7293034) (hj : j + 5 < L) (kend : ∀ υ, gN σ υ → lW p l e s m below meth c Q dd cy z sa b [] (nI j) 1874 [] υ) : lW p l e s m below meth c Q dd cy z sa b [] (nI j) 629 [] σ := by
  obtain ⟨a, τ, υ, hF, hG, hN1, hN2, hW2⟩ := w77 hW (xs (j + 1))
  have r1 := e77 9 hF
  have r2 := e213 8 hG
  obtain ⟨m1, m2, a1, a2, hgN⟩ := g_pair hW hO r1 r2 hN1 hN2 hW2
  have c2 : mN υ ≤ 601024 ∧ mU υ ≤ 7293034 := by
    obtain ⟨-, -, x1, x2⟩ := hgN
    omega
  have c1 : mN τ ≤ 601024 ∧ mU τ ≤ 7293034 := by omega
  refine g_al1 C (ld8 19 rfl) ?_
  refine g_arg (k := 1) C (by omega) (by decide) (ld8 20 rfl) (ld8 21 rfl) (ld8 22 rfl) (ld8 23 rfl) (ld8 24 rfl) ?_
  refine g_vc (rn := 77) (a := 0) (o := 7) (as := [.int (xs (j + 1))]) (st := []) C (by decide) (by decide) m1 c1 (g_run (as := (.ref 0 :: [.int (xs (j + 1))])) (by decide) (Nat.le_of_ble_eq_true rfl) r1) ⟨rfl, by decide, rfl, by decide, rfl⟩ a1 lk_74 (Nat.le_of_ble_eq_true rfl) (ld8 25 rfl) ?_
  refine g_al2 C (ld8 26 rfl) ?_
  refine g_arg (k := 1) C (by omega) (by decide) (ld8 27 rfl) (ld8 28 rfl) (ld8 29 rfl) (ld9 0 rfl) (ld9 1 rfl) ?_
  refine g_vc (rn := 213) (a := 102) (o := 9) (as := [.int (xs (j + 1))]) (st := [.int a]) C (by decide) (by decide) m2 c2 (g_run (as := (.ref 102 :: [.int (xs (j + 1))])) (by decide) (Nat.le_of_ble_eq_true rfl) r2) ⟨rfl, by decide, rfl, by decide, rfl⟩ a2 lk_77 (Nat.le_of_ble_eq_true rfl) (ld9 2 rfl) ?_
  refine g_eqi C (ld9 3 rfl) (by decide) ?_
  exact kend υ hgN
theorem q_14 (C : GC p l s m c dd cy z sa av b L xs) (hW : Wd σ) (hO : gO σ) (hcap : mN σ + 12 ≤ 601024 ∧ mU σ + 98 ≤ 7293034) (hj : j + 5 < L) (kend : ∀ υ, gN σ υ → lW p l e s m below meth c Q dd cy z sa b [] (nI j) 1874 [] υ) : lW p l e s m below meth c Q dd cy z sa b [] (nI j) 654 [] σ := by
  obtain ⟨a, τ, υ, hF, hG, hN1, hN2, hW2⟩ := w78 hW
  have r1 := e78 9 hF
  have r2 := e214 8 hG
  obtain ⟨m1, m2, a1, a2, hgN⟩ := g_pair hW hO r1 r2 hN1 hN2 hW2
  have c2 : mN υ ≤ 601024 ∧ mU υ ≤ 7293034 := by
    obtain ⟨-, -, x1, x2⟩ := hgN
    omega
  have c1 : mN τ ≤ 601024 ∧ mU τ ≤ 7293034 := by omega
  refine g_al1 C (ld9 4 rfl) ?_
  refine g_vc (rn := 78) (a := 0) (o := 7) (as := []) (st := []) C (by decide) (by decide) m1 c1 (g_run (as := (.ref 0 :: [])) (by decide) (Nat.le_of_ble_eq_true rfl) r1) ⟨rfl, by decide, rfl, by decide, rfl⟩ a1 lk_78 (Nat.le_of_ble_eq_true rfl) (ld9 5 rfl) ?_
  refine g_al2 C (ld9 6 rfl) ?_
  refine g_vc (rn := 214) (a := 102) (o := 9) (as := []) (st := [.int a]) C (by decide) (by decide) m2 c2 (g_run (as := (.ref 102 :: [])) (by decide) (Nat.le_of_ble_eq_true rfl) r2) ⟨rfl, by decide, rfl, by decide, rfl⟩ a2 lk_81 (Nat.le_of_ble_eq_true rfl) (ld9 7 rfl) ?_
  refine g_eqi C (ld9 8 rfl) (by decide) ?_
  exact kend υ hgN
theorem q_15 (C : GC p l s m c dd cy z sa av b L xs) (hW : Wd σ) (hO : gO σ) (hcap : mN σ + 12 ≤ 601024 ∧ mU σ + 98 ≤ 7293034) (hj : j + 5 < L) (kend : ∀ υ, gN σ υ → lW p l e s m below meth c Q dd cy z sa b [] (nI j) 1874 [] υ) : lW p l e s m below meth c Q dd cy z sa b [] (nI j) 667 [] σ := by
  obtain ⟨a, τ, υ, hF, hG, hN1, hN2, hW2⟩ := w79 hW
  have r1 := e79 9 hF
  have r2 := e215 8 hG
  obtain ⟨m1, m2, a1, a2, hgN⟩ := g_pair hW hO r1 r2 hN1 hN2 hW2
  have c2 : mN υ ≤ 601024 ∧ mU υ ≤ 7293034 := by
    obtain ⟨-, -, x1, x2⟩ := hgN
    omega
  have c1 : mN τ ≤ 601024 ∧ mU τ ≤ 7293034 := by omega
  refine g_al1 C (ld9 9 rfl) ?_
  refine g_vc (rn := 79) (a := 0) (o := 7) (as := []) (st := []) C (by decide) (by decide) m1 c1 (g_run (as := (.ref 0 :: [])) (by decide) (Nat.le_of_ble_eq_true rfl) r1) ⟨rfl, by decide, rfl, by decide, rfl⟩ a1 lk_82 (Nat.le_of_ble_eq_true rfl) (ld9 10 rfl) ?_
  refine g_al2 C (ld9 11 rfl) ?_
  refine g_vc (rn := 215) (a := 102) (o := 9) (as := []) (st := [.int a]) C (by decide) (by decide) m2 c2 (g_run (as := (.ref 102 :: [])) (by decide) (Nat.le_of_ble_eq_true rfl) r2) ⟨rfl, by decide, rfl, by decide, rfl⟩ a2 lk_85 (Nat.le_of_ble_eq_true rfl) (ld9 12 rfl) ?_
  refine g_eqi C (ld9 13 rfl) (by decide) ?_
  exact kend υ hgN
theorem q_16 (C : GC p l s m c dd cy z sa av b L xs) (hW : Wd σ) (hO : gO σ) (hcap : mN σ + 12 ≤ 601024 ∧ mU σ + 98 ≤ 7293034) (hj : j + 5 < L) (kend : ∀ υ, gN σ υ → lW p l e s m below meth c Q dd cy z sa b [] (nI j) 1874 [] υ) : lW p l e s m below meth c Q dd cy z sa b [] (nI j) 680 [] σ := by
  obtain ⟨a, τ, υ, hF, hG, hN1, hN2, hW2⟩ := w80 hW (xs (j + 1)) (xs (j + 2))
  have r1 := e80 9 hF
  have r2 := e216 8 hG
  obtain ⟨m1, m2, a1, a2, hgN⟩ := g_pair hW hO r1 r2 hN1 hN2 hW2
  have c2 : mN υ ≤ 601024 ∧ mU υ ≤ 7293034 := by
    obtain ⟨-, -, x1, x2⟩ := hgN
    omega
  have c1 : mN τ ≤ 601024 ∧ mU τ ≤ 7293034 := by omega
  refine g_al1 C (ld9 14 rfl) ?_
  refine g_arg (k := 1) C (by omega) (by decide) (ld9 15 rfl) (ld9 16 rfl) (ld9 17 rfl) (ld9 18 rfl) (ld9 19 rfl) ?_
  refine g_arg (k := 2) C (by omega) (by decide) (ld9 20 rfl) (ld9 21 rfl) (ld9 22 rfl) (ld9 23 rfl) (ld9 24 rfl) ?_
  refine g_vc (rn := 80) (a := 0) (o := 7) (as := [.int (xs (j + 1)), .int (xs (j + 2))]) (st := []) C (by decide) (by decide) m1 c1 (g_run (as := (.ref 0 :: [.int (xs (j + 1)), .int (xs (j + 2))])) (by decide) (Nat.le_of_ble_eq_true rfl) r1) ⟨rfl, by decide, rfl, by decide, rfl⟩ a1 lk_86 (Nat.le_of_ble_eq_true rfl) (ld9 25 rfl) ?_
  refine g_al2 C (ld9 26 rfl) ?_
  refine g_arg (k := 1) C (by omega) (by decide) (ld9 27 rfl) (ld9 28 rfl) (ld9 29 rfl) (ld10 0 rfl) (ld10 1 rfl) ?_
  refine g_arg (k := 2) C (by omega) (by decide) (ld10 2 rfl) (ld10 3 rfl) (ld10 4 rfl) (ld10 5 rfl) (ld10 6 rfl) ?_
  refine g_vc (rn := 216) (a := 102) (o := 9) (as := [.int (xs (j + 1)), .int (xs (j + 2))]) (st := [.int a]) C (by decide) (by decide) m2 c2 (g_run (as := (.ref 102 :: [.int (xs (j + 1)), .int (xs (j + 2))])) (by decide) (Nat.le_of_ble_eq_true rfl) r2) ⟨rfl, by decide, rfl, by decide, rfl⟩ a2 lk_89 (Nat.le_of_ble_eq_true rfl) (ld10 7 rfl) ?_
  refine g_eqi C (ld10 8 rfl) (by decide) ?_
  exact kend υ hgN
theorem q_17 (C : GC p l s m c dd cy z sa av b L xs) (hW : Wd σ) (hO : gO σ) (hcap : mN σ + 12 ≤ 601024 ∧ mU σ + 98 ≤ 7293034) (hj : j + 5 < L) (kend : ∀ υ, gN σ υ → lW p l e s m below meth c Q dd cy z sa b [] (nI j) 1874 [] υ) : lW p l e s m below meth c Q dd cy z sa b [] (nI j) 717 [] σ := by
  obtain ⟨a, τ, υ, hF, hG, hN1, hN2, hW2⟩ := w81 hW (xs (j + 1)) (gB (xs (j + 2)))
  have r1 := e81 9 hF
  have r2 := e220 8 hG
  obtain ⟨m1, m2, a1, a2, hgN⟩ := g_pair hW hO r1 r2 hN1 hN2 hW2
  have c2 : mN υ ≤ 601024 ∧ mU υ ≤ 7293034 := by
    obtain ⟨-, -, x1, x2⟩ := hgN
    omega
  have c1 : mN τ ≤ 601024 ∧ mU τ ≤ 7293034 := by omega
  refine g_al1 C (ld10 9 rfl) ?_
  refine g_arg (k := 1) C (by omega) (by decide) (ld10 10 rfl) (ld10 11 rfl) (ld10 12 rfl) (ld10 13 rfl) (ld10 14 rfl) ?_
  refine g_arg (k := 2) C (by omega) (by decide) (ld10 15 rfl) (ld10 16 rfl) (ld10 17 rfl) (ld10 18 rfl) (ld10 19 rfl) ?_
  refine g_bool C (ld10 20 rfl) (ld10 21 rfl) (ld10 22 rfl) (ld10 23 rfl) ?_
  refine g_vc (rn := 81) (a := 0) (o := 7) (as := [.int (xs (j + 1)), .int (gB (xs (j + 2)))]) (st := []) C (by decide) (by decide) m1 c1 (g_run (as := (.ref 0 :: [.int (xs (j + 1)), .int (gB (xs (j + 2)))])) (by decide) (Nat.le_of_ble_eq_true rfl) r1) ⟨rfl, by decide, rfl, by decide, rfl⟩ a1 lk_90 (Nat.le_of_ble_eq_true rfl) (ld10 24 rfl) ?_
  refine g_al2 C (ld10 25 rfl) ?_
  refine g_arg (k := 1) C (by omega) (by decide) (ld10 26 rfl) (ld10 27 rfl) (ld10 28 rfl) (ld10 29 rfl) (ld11 0 rfl) ?_
  refine g_arg (k := 2) C (by omega) (by decide) (ld11 1 rfl) (ld11 2 rfl) (ld11 3 rfl) (ld11 4 rfl) (ld11 5 rfl) ?_
  refine g_bool C (ld11 6 rfl) (ld11 7 rfl) (ld11 8 rfl) (ld11 9 rfl) ?_
  refine g_vc (rn := 220) (a := 102) (o := 9) (as := [.int (xs (j + 1)), .int (gB (xs (j + 2)))]) (st := [.long a]) C (by decide) (by decide) m2 c2 (g_run (as := (.ref 102 :: [.int (xs (j + 1)), .int (gB (xs (j + 2)))])) (by decide) (Nat.le_of_ble_eq_true rfl) r2) ⟨rfl, by decide, rfl, by decide, rfl⟩ a2 lk_94 (Nat.le_of_ble_eq_true rfl) (ld11 10 rfl) ?_
  refine g_eql C (ld11 11 rfl) (ld11 12 rfl) (by decide) ?_
  exact kend υ hgN
theorem q_18 (C : GC p l s m c dd cy z sa av b L xs) (hW : Wd σ) (hO : gO σ) (hcap : mN σ + 12 ≤ 601024 ∧ mU σ + 98 ≤ 7293034) (hj : j + 5 < L) (kend : ∀ υ, gN σ υ → lW p l e s m below meth c Q dd cy z sa b [] (nI j) 1874 [] υ) : lW p l e s m below meth c Q dd cy z sa b [] (nI j) 771 [] σ := by
  obtain ⟨a, τ, υ, hF, hG, hN1, hN2, hW2⟩ := w82 hW (xs (j + 1)) (xs (j + 2)) (gB (xs (j + 3)))
  have r1 := e82 8 hF
  have r2 := e221 8 hG
  obtain ⟨m1, m2, a1, a2, hgN⟩ := g_pair hW hO r1 r2 hN1 hN2 hW2
  have c2 : mN υ ≤ 601024 ∧ mU υ ≤ 7293034 := by
    obtain ⟨-, -, x1, x2⟩ := hgN
    omega
  have c1 : mN τ ≤ 601024 ∧ mU τ ≤ 7293034 := by omega
  refine g_al1 C (ld11 13 rfl) ?_
  refine g_arg (k := 1) C (by omega) (by decide) (ld11 14 rfl) (ld11 15 rfl) (ld11 16 rfl) (ld11 17 rfl) (ld11 18 rfl) ?_
  refine g_arg (k := 2) C (by omega) (by decide) (ld11 19 rfl) (ld11 20 rfl) (ld11 21 rfl) (ld11 22 rfl) (ld11 23 rfl) ?_
  refine g_arg (k := 3) C (by omega) (by decide) (ld11 24 rfl) (ld11 25 rfl) (ld11 26 rfl) (ld11 27 rfl) (ld11 28 rfl) ?_
  refine g_bool C (ld11 29 rfl) (ld12 0 rfl) (ld12 1 rfl) (ld12 2 rfl) ?_
  refine g_vc (rn := 82) (a := 0) (o := 7) (as := [.int (xs (j + 1)), .int (xs (j + 2)), .int (gB (xs (j + 3)))]) (st := []) C (by decide) (by decide) m1 c1 (g_run (as := (.ref 0 :: [.int (xs (j + 1)), .int (xs (j + 2)), .int (gB (xs (j + 3)))])) (by decide) (Nat.le_of_ble_eq_true rfl) r1) ⟨rfl, by decide, rfl, by decide, rfl⟩ a1 lk_95 (Nat.le_of_ble_eq_true rfl) (ld12 3 rfl) ?_
  refine g_al2 C (ld12 4 rfl) ?_
  refine g_arg (k := 1) C (by omega) (by decide) (ld12 5 rfl) (ld12 6 rfl) (ld12 7 rfl) (ld12 8 rfl) (ld12 9 rfl) ?_
  refine g_arg (k := 2) C (by omega) (by decide) (ld12 10 rfl) (ld12 11 rfl) (ld12 12 rfl) (ld12 13 rfl) (ld12 14 rfl) ?_
  refine g_arg (k := 3) C (by omega) (by decide) (ld12 15 rfl) (ld12 16 rfl) (ld12 17 rfl) (ld12 18 rfl) (ld12 19 rfl) ?_
  refine g_bool C (ld12 20 rfl) (ld12 21 rfl) (ld12 22 rfl) (ld12 23 rfl) ?_
  refine g_vc (rn := 221) (a := 102) (o := 9) (as := [.int (xs (j + 1)), .int (xs (j + 2)), .int (gB (xs (j + 3)))]) (st := [.long a]) C (by decide) (by decide) m2 c2 (g_run (as := (.ref 102 :: [.int (xs (j + 1)), .int (xs (j + 2)), .int (gB (xs (j + 3)))])) (by decide) (Nat.le_of_ble_eq_true rfl) r2) ⟨rfl, by decide, rfl, by decide, rfl⟩ a2 lk_99 (Nat.le_of_ble_eq_true rfl) (ld12 24 rfl) ?_
  refine g_eql C (ld12 25 rfl) (ld12 26 rfl) (by decide) ?_
  exact kend υ hgN
theorem q_19 (C : GC p l s m c dd cy z sa av b L xs) (hW : Wd σ) (hO : gO σ) (hcap : mN σ + 12 ≤ 601024 ∧ mU σ + 98 ≤ 7293034) (hj : j + 5 < L) (kend : ∀ υ, gN σ υ → lW p l e s m below meth c Q dd cy z sa b [] (nI j) 1874 [] υ) : lW p l e s m below meth c Q dd cy z sa b [] (nI j) 837 [] σ := by
  obtain ⟨a, τ, υ, hF, hG, hN1, hN2, hW2⟩ := w83 hW (xs (j + 1)) (xs (j + 2)) (gB (xs (j + 3)))
  have r1 := e83 9 hF
  have r2 := e222 8 hG
  obtain ⟨m1, m2, a1, a2, hgN⟩ := g_pair hW hO r1 r2 hN1 hN2 hW2
  have c2 : mN υ ≤ 601024 ∧ mU υ ≤ 7293034 := by
    obtain ⟨-, -, x1, x2⟩ := hgN
    omega
  have c1 : mN τ ≤ 601024 ∧ mU τ ≤ 7293034 := by omega
  refine g_al1 C (ld12 27 rfl) ?_
  refine g_arg (k := 1) C (by omega) (by decide) (ld12 28 rfl) (ld12 29 rfl) (ld13 0 rfl) (ld13 1 rfl) (ld13 2 rfl) ?_
  refine g_arg (k := 2) C (by omega) (by decide) (ld13 3 rfl) (ld13 4 rfl) (ld13 5 rfl) (ld13 6 rfl) (ld13 7 rfl) ?_
  refine g_arg (k := 3) C (by omega) (by decide) (ld13 8 rfl) (ld13 9 rfl) (ld13 10 rfl) (ld13 11 rfl) (ld13 12 rfl) ?_
  refine g_bool C (ld13 13 rfl) (ld13 14 rfl) (ld13 15 rfl) (ld13 16 rfl) ?_
  refine g_vc (rn := 83) (a := 0) (o := 7) (as := [.int (xs (j + 1)), .int (xs (j + 2)), .int (gB (xs (j + 3)))]) (st := []) C (by decide) (by decide) m1 c1 (g_run (as := (.ref 0 :: [.int (xs (j + 1)), .int (xs (j + 2)), .int (gB (xs (j + 3)))])) (by decide) (Nat.le_of_ble_eq_true rfl) r1) ⟨rfl, by decide, rfl, by decide, rfl⟩ a1 lk_100 (Nat.le_of_ble_eq_true rfl) (ld13 17 rfl) ?_
  refine g_al2 C (ld13 18 rfl) ?_
  refine g_arg (k := 1) C (by omega) (by decide) (ld13 19 rfl) (ld13 20 rfl) (ld13 21 rfl) (ld13 22 rfl) (ld13 23 rfl) ?_
  refine g_arg (k := 2) C (by omega) (by decide) (ld13 24 rfl) (ld13 25 rfl) (ld13 26 rfl) (ld13 27 rfl) (ld13 28 rfl) ?_
  refine g_arg (k := 3) C (by omega) (by decide) (ld13 29 rfl) (ld14 0 rfl) (ld14 1 rfl) (ld14 2 rfl) (ld14 3 rfl) ?_
  refine g_bool C (ld14 4 rfl) (ld14 5 rfl) (ld14 6 rfl) (ld14 7 rfl) ?_
  refine g_vc (rn := 222) (a := 102) (o := 9) (as := [.int (xs (j + 1)), .int (xs (j + 2)), .int (gB (xs (j + 3)))]) (st := [.long a]) C (by decide) (by decide) m2 c2 (g_run (as := (.ref 102 :: [.int (xs (j + 1)), .int (xs (j + 2)), .int (gB (xs (j + 3)))])) (by decide) (Nat.le_of_ble_eq_true rfl) r2) ⟨rfl, by decide, rfl, by decide, rfl⟩ a2 lk_103 (Nat.le_of_ble_eq_true rfl) (ld14 8 rfl) ?_
  refine g_eql C (ld14 9 rfl) (ld14 10 rfl) (by decide) ?_
  exact kend υ hgN
theorem q_20 (C : GC p l s m c dd cy z sa av b L xs) (hW : Wd σ) (hO : gO σ) (hcap : mN σ + 12 ≤ 601024 ∧ mU σ + 98 ≤ 7293034) (hj : j + 5 < L) (kend : ∀ υ, gN σ υ → lW p l e s m below meth c Q dd cy z sa b [] (nI j) 1874 [] υ) : lW p l e s m below meth c Q dd cy z sa b [] (nI j) 903 [] σ := by
  obtain ⟨a, τ, υ, hF, hG, hN1, hN2, hW2⟩ := w84 hW (gB (xs (j + 1)))
  have r1 := e84 9 hF
  have r2 := e223 8 hG
  obtain ⟨m1, m2, a1, a2, hgN⟩ := g_pair hW hO r1 r2 hN1 hN2 hW2
  have c2 : mN υ ≤ 601024 ∧ mU υ ≤ 7293034 := by
    obtain ⟨-, -, x1, x2⟩ := hgN
    omega
  have c1 : mN τ ≤ 601024 ∧ mU τ ≤ 7293034 := by omega
  refine g_al1 C (ld14 11 rfl) ?_
  refine g_arg (k := 1) C (by omega) (by decide) (ld14 12 rfl) (ld14 13 rfl) (ld14 14 rfl) (ld14 15 rfl) (ld14 16 rfl) ?_
  refine g_bool C (ld14 17 rfl) (ld14 18 rfl) (ld14 19 rfl) (ld14 20 rfl) ?_
  refine g_vc (rn := 84) (a := 0) (o := 7) (as := [.int (gB (xs (j + 1)))]) (st := []) C (by decide) (by decide) m1 c1 (g_run (as := (.ref 0 :: [.int (gB (xs (j + 1)))])) (by decide) (Nat.le_of_ble_eq_true rfl) r1) ⟨rfl, by decide, rfl, by decide, rfl⟩ a1 lk_104 (Nat.le_of_ble_eq_true rfl) (ld14 21 rfl) ?_
  refine g_al2 C (ld14 22 rfl) ?_
  refine g_arg (k := 1) C (by omega) (by decide) (ld14 23 rfl) (ld14 24 rfl) (ld14 25 rfl) (ld14 26 rfl) (ld14 27 rfl) ?_
  refine g_bool C (ld14 28 rfl) (ld14 29 rfl) (ld15 0 rfl) (ld15 1 rfl) ?_
  refine g_vc (rn := 223) (a := 102) (o := 9) (as := [.int (gB (xs (j + 1)))]) (st := [.long a]) C (by decide) (by decide) m2 c2 (g_run (as := (.ref 102 :: [.int (gB (xs (j + 1)))])) (by decide) (Nat.le_of_ble_eq_true rfl) r2) ⟨rfl, by decide, rfl, by decide, rfl⟩ a2 lk_108 (Nat.le_of_ble_eq_true rfl) (ld15 2 rfl) ?_
  refine g_eql C (ld15 3 rfl) (ld15 4 rfl) (by decide) ?_
  exact kend υ hgN
theorem q_21 (C : GC p l s m c dd cy z sa av b L xs) (hW : Wd σ) (hO : gO σ) (hcap : mN σ + 12 ≤ 601024 ∧ mU σ + 98 ≤ 7293034) (hj : j + 5 < L) (kend : ∀ υ, gN σ υ → lW p l e s m below meth c Q dd cy z sa b [] (nI j) 1874 [] υ) : lW p l e s m below meth c Q dd cy z sa b [] (nI j) 945 [] σ := by
  obtain ⟨a, τ, υ, hF, hG, hN1, hN2, hW2⟩ := w85 hW (xs (j + 1)) (xs (j + 2))
  have r1 := e85 7 hF
  have r2 := e227 7 hG
  obtain ⟨m1, m2, a1, a2, hgN⟩ := g_pair hW hO r1 r2 hN1 hN2 hW2
  have c2 : mN υ ≤ 601024 ∧ mU υ ≤ 7293034 := by
    obtain ⟨-, -, x1, x2⟩ := hgN
    omega
  have c1 : mN τ ≤ 601024 ∧ mU τ ≤ 7293034 := by omega
  refine g_al1 C (ld15 5 rfl) ?_
  refine g_arg (k := 1) C (by omega) (by decide) (ld15 6 rfl) (ld15 7 rfl) (ld15 8 rfl) (ld15 9 rfl) (ld15 10 rfl) ?_
  refine g_arg (k := 2) C (by omega) (by decide) (ld15 11 rfl) (ld15 12 rfl) (ld15 13 rfl) (ld15 14 rfl) (ld15 15 rfl) ?_
  refine g_vc (rn := 85) (a := 0) (o := 7) (as := [.int (xs (j + 1)), .int (xs (j + 2))]) (st := []) C (by decide) (by decide) m1 c1 (g_run (as := (.ref 0 :: [.int (xs (j + 1)), .int (xs (j + 2))])) (by decide) (Nat.le_of_ble_eq_true rfl) r1) ⟨rfl, by decide, rfl, by decide, rfl⟩ a1 lk_109 (Nat.le_of_ble_eq_true rfl) (ld15 16 rfl) ?_
  refine g_al2 C (ld15 17 rfl) ?_
  refine g_arg (k := 1) C (by omega) (by decide) (ld15 18 rfl) (ld15 19 rfl) (ld15 20 rfl) (ld15 21 rfl) (ld15 22 rfl) ?_
  refine g_arg (k := 2) C (by omega) (by decide) (ld15 23 rfl) (ld15 24 rfl) (ld15 25 rfl) (ld15 26 rfl) (ld15 27 rfl) ?_
  refine g_vc (rn := 227) (a := 102) (o := 9) (as := [.int (xs (j + 1)), .int (xs (j + 2))]) (st := [.int a]) C (by decide) (by decide) m2 c2 (g_run (as := (.ref 102 :: [.int (xs (j + 1)), .int (xs (j + 2))])) (by decide) (Nat.le_of_ble_eq_true rfl) r2) ⟨rfl, by decide, rfl, by decide, rfl⟩ a2 lk_112 (Nat.le_of_ble_eq_true rfl) (ld15 28 rfl) ?_
  refine g_eqi C (ld15 29 rfl) (by decide) ?_
  exact kend υ hgN
theorem q_22 (C : GC p l s m c dd cy z sa av b L xs) (hW : Wd σ) (hO : gO σ) (hcap : mN σ + 12 ≤ 601024 ∧ mU σ + 98 ≤ 7293034) (hj : j + 5 < L) (kend : ∀ υ, gN σ υ → lW p l e s m below meth c Q dd cy z sa b [] (nI j) 1874 [] υ) : lW p l e s m below meth c Q dd cy z sa b [] (nI j) 982 [] σ := by
  obtain ⟨a, τ, υ, hF, hG, hN1, hN2, hW2⟩ := w86 hW (xs (j + 1)) (xs (j + 2)) (gB (xs (j + 3)))
  have r1 := e86 7 hF
  have r2 := e228 7 hG
  obtain ⟨m1, m2, a1, a2, hgN⟩ := g_pair hW hO r1 r2 hN1 hN2 hW2
  have c2 : mN υ ≤ 601024 ∧ mU υ ≤ 7293034 := by
    obtain ⟨-, -, x1, x2⟩ := hgN
    omega
  have c1 : mN τ ≤ 601024 ∧ mU τ ≤ 7293034 := by omega
  refine g_al1 C (ld16 0 rfl) ?_
  refine g_arg (k := 1) C (by omega) (by decide) (ld16 1 rfl) (ld16 2 rfl) (ld16 3 rfl) (ld16 4 rfl) (ld16 5 rfl) ?_
  refine g_arg (k := 2) C (by omega) (by decide) (ld16 6 rfl) (ld16 7 rfl) (ld16 8 rfl) (ld16 9 rfl) (ld16 10 rfl) ?_
  refine g_arg (k := 3) C (by omega) (by decide) (ld16 11 rfl) (ld16 12 rfl) (ld16 13 rfl) (ld16 14 rfl) (ld16 15 rfl) ?_
  refine g_bool C (ld16 16 rfl) (ld16 17 rfl) (ld16 18 rfl) (ld16 19 rfl) ?_
  refine g_vc (rn := 86) (a := 0) (o := 7) (as := [.int (xs (j + 1)), .int (xs (j + 2)), .int (gB (xs (j + 3)))]) (st := []) C (by decide) (by decide) m1 c1 (g_run (as := (.ref 0 :: [.int (xs (j + 1)), .int (xs (j + 2)), .int (gB (xs (j + 3)))])) (by decide) (Nat.le_of_ble_eq_true rfl) r1) ⟨rfl, by decide, rfl, by decide, rfl⟩ a1 lk_113 (Nat.le_of_ble_eq_true rfl) (ld16 20 rfl) ?_
  refine g_al2 C (ld16 21 rfl) ?_
  refine g_arg (k := 1) C (by omega) (by decide) (ld16 22 rfl) (ld16 23 rfl) (ld16 24 rfl) (ld16 25 rfl) (ld16 26 rfl) ?_
  refine g_arg (k := 2) C (by omega) (by decide) (ld16 27 rfl) (ld16 28 rfl) (ld16 29 rfl) (ld17 0 rfl) (ld17 1 rfl) ?_
  refine g_arg (k := 3) C (by omega) (by decide) (ld17 2 rfl) (ld17 3 rfl) (ld17 4 rfl) (ld17 5 rfl) (ld17 6 rfl) ?_
  refine g_bool C (ld17 7 rfl) (ld17 8 rfl) (ld17 9 rfl) (ld17 10 rfl) ?_
  refine g_vc (rn := 228) (a := 102) (o := 9) (as := [.int (xs (j + 1)), .int (xs (j + 2)), .int (gB (xs (j + 3)))]) (st := [.long a]) C (by decide) (by decide) m2 c2 (g_run (as := (.ref 102 :: [.int (xs (j + 1)), .int (xs (j + 2)), .int (gB (xs (j + 3)))])) (by decide) (Nat.le_of_ble_eq_true rfl) r2) ⟨rfl, by decide, rfl, by decide, rfl⟩ a2 lk_116 (Nat.le_of_ble_eq_true rfl) (ld17 11 rfl) ?_
  refine g_eql C (ld17 12 rfl) (ld17 13 rfl) (by decide) ?_
  exact kend υ hgN
theorem q_23 (C : GC p l s m c dd cy z sa av b L xs) (hW : Wd σ) (hO : gO σ) (hcap : mN σ + 12 ≤ 601024 ∧ mU σ + 98 ≤ 7293034) (hj : j + 5 < L) (kend : ∀ υ, gN σ υ → lW p l e s m below meth c Q dd cy z sa b [] (nI j) 1874 [] υ) : lW p l e s m below meth c Q dd cy z sa b [] (nI j) 1048 [] σ := by
  obtain ⟨a, τ, υ, hF, hG, hN1, hN2, hW2⟩ := w87 hW (xs (j + 1)) (xs (j + 2))
  have r1 := e87 7 hF
  have r2 := e232 7 hG
  obtain ⟨m1, m2, a1, a2, hgN⟩ := g_pair hW hO r1 r2 hN1 hN2 hW2
  have c2 : mN υ ≤ 601024 ∧ mU υ ≤ 7293034 := by
    obtain ⟨-, -, x1, x2⟩ := hgN
    omega
  have c1 : mN τ ≤ 601024 ∧ mU τ ≤ 7293034 := by omega
  refine g_al1 C (ld17 14 rfl) ?_
  refine g_arg (k := 1) C (by omega) (by decide) (ld17 15 rfl) (ld17 16 rfl) (ld17 17 rfl) (ld17 18 rfl) (ld17 19 rfl) ?_
  refine g_arg (k := 2) C (by omega) (by decide) (ld17 20 rfl) (ld17 21 rfl) (ld17 22 rfl) (ld17 23 rfl) (ld17 24 rfl) ?_
  refine g_vc (rn := 87) (a := 0) (o := 7) (as := [.int (xs (j + 1)), .int (xs (j + 2))]) (st := []) C (by decide) (by decide) m1 c1 (g_run (as := (.ref 0 :: [.int (xs (j + 1)), .int (xs (j + 2))])) (by decide) (Nat.le_of_ble_eq_true rfl) r1) ⟨rfl, by decide, rfl, by decide, rfl⟩ a1 lk_117 (Nat.le_of_ble_eq_true rfl) (ld17 25 rfl) ?_
  refine g_al2 C (ld17 26 rfl) ?_
  refine g_arg (k := 1) C (by omega) (by decide) (ld17 27 rfl) (ld17 28 rfl) (ld17 29 rfl) (ld18 0 rfl) (ld18 1 rfl) ?_
  refine g_arg (k := 2) C (by omega) (by decide) (ld18 2 rfl) (ld18 3 rfl) (ld18 4 rfl) (ld18 5 rfl) (ld18 6 rfl) ?_
  refine g_vc (rn := 232) (a := 102) (o := 9) (as := [.int (xs (j + 1)), .int (xs (j + 2))]) (st := [.int a]) C (by decide) (by decide) m2 c2 (g_run (as := (.ref 102 :: [.int (xs (j + 1)), .int (xs (j + 2))])) (by decide) (Nat.le_of_ble_eq_true rfl) r2) ⟨rfl, by decide, rfl, by decide, rfl⟩ a2 lk_120 (Nat.le_of_ble_eq_true rfl) (ld18 7 rfl) ?_
  refine g_eqi C (ld18 8 rfl) (by decide) ?_
  exact kend υ hgN
theorem q_24 (C : GC p l s m c dd cy z sa av b L xs) (hW : Wd σ) (hO : gO σ) (hcap : mN σ + 12 ≤ 601024 ∧ mU σ + 98 ≤ 7293034) (hj : j + 5 < L) (kend : ∀ υ, gN σ υ → lW p l e s m below meth c Q dd cy z sa b [] (nI j) 1874 [] υ) : lW p l e s m below meth c Q dd cy z sa b [] (nI j) 1085 [] σ := by
  obtain ⟨a, τ, υ, hF, hG, hN1, hN2, hW2⟩ := w88 hW (xs (j + 1)) (xs (j + 2))
  have r1 := e88 7 hF
  have r2 := e233 7 hG
  obtain ⟨m1, m2, a1, a2, hgN⟩ := g_pair hW hO r1 r2 hN1 hN2 hW2
  have c2 : mN υ ≤ 601024 ∧ mU υ ≤ 7293034 := by
    obtain ⟨-, -, x1, x2⟩ := hgN
    omega
  have c1 : mN τ ≤ 601024 ∧ mU τ ≤ 7293034 := by omega
  refine g_al1 C (ld18 9 rfl) ?_
  refine g_arg (k := 1) C (by omega) (by decide) (ld18 10 rfl) (ld18 11 rfl) (ld18 12 rfl) (ld18 13 rfl) (ld18 14 rfl) ?_
  refine g_arg (k := 2) C (by omega) (by decide) (ld18 15 rfl) (ld18 16 rfl) (ld18 17 rfl) (ld18 18 rfl) (ld18 19 rfl) ?_
  refine g_vc (rn := 88) (a := 0) (o := 7) (as := [.int (xs (j + 1)), .int (xs (j + 2))]) (st := []) C (by decide) (by decide) m1 c1 (g_run (as := (.ref 0 :: [.int (xs (j + 1)), .int (xs (j + 2))])) (by decide) (Nat.le_of_ble_eq_true rfl) r1) ⟨rfl, by decide, rfl, by decide, rfl⟩ a1 lk_121 (Nat.le_of_ble_eq_true rfl) (ld18 20 rfl) ?_
  refine g_al2 C (ld18 21 rfl) ?_
  refine g_arg (k := 1) C (by omega) (by decide) (ld18 22 rfl) (ld18 23 rfl) (ld18 24 rfl) (ld18 25 rfl) (ld18 26 rfl) ?_
  refine g_arg (k := 2) C (by omega) (by decide) (ld18 27 rfl) (ld18 28 rfl) (ld18 29 rfl) (ld19 0 rfl) (ld19 1 rfl) ?_
  refine g_vc (rn := 233) (a := 102) (o := 9) (as := [.int (xs (j + 1)), .int (xs (j + 2))]) (st := [.int a]) C (by decide) (by decide) m2 c2 (g_run (as := (.ref 102 :: [.int (xs (j + 1)), .int (xs (j + 2))])) (by decide) (Nat.le_of_ble_eq_true rfl) r2) ⟨rfl, by decide, rfl, by decide, rfl⟩ a2 lk_124 (Nat.le_of_ble_eq_true rfl) (ld19 2 rfl) ?_
  refine g_eqi C (ld19 3 rfl) (by decide) ?_
  exact kend υ hgN
end QC
