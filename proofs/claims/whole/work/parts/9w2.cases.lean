/-! the law's cases -/
section QC
variable {p : Program} {l : Launch} {e : Env} {s : State} {m : MethodId} {below : List Frame} {meth : Method} {c : Code} {Q : State → Prop} {dd : va_G} {cy : Nat → ClassId} {z : Nat} {sa : UInt32 → Nat} {av : Nat → Nat} {b L : Nat} {xs : Nat → Int32} {j : Nat} {σ : xM}
theorem q_25 (C : GC p l s m c dd cy z sa av b L xs) (hW : Wd σ) (hO : gO σ) (hcap : mN σ + 12 ≤ 601024 ∧ mU σ + 98 ≤ 7293034) (hj : j + 5 < L) (kend : ∀ υ, gN σ υ → lW p l e s m below meth c Q dd cy z sa b [] (nI j) 1874 [] υ) : lW p l e s m below meth c Q dd cy z sa b [] (nI j) 1122 [] σ := by
  obtain ⟨a, τ, υ, hF, hG, hN1, hN2, hW2⟩ := w89 hW (xs (j + 1)) (xs (j + 2))
  have r1 := e89 12 hF
  have r2 := e234 10 hG
  obtain ⟨m1, m2, a1, a2, hgN⟩ := g_pair hW hO r1 r2 hN1 hN2 hW2
  have c2 : mN υ ≤ 601024 ∧ mU υ ≤ 7293034 := by
    obtain ⟨-, -, x1, x2⟩ := hgN
    omega
  have c1 : mN τ ≤ 601024 ∧ mU τ ≤ 7293034 := by omega
  refine g_al1 C (ld19 4 rfl) ?_
  refine g_arg (k := 1) C (by omega) (by decide) (ld19 5 rfl) (ld19 6 rfl) (ld19 7 rfl) (ld19 8 rfl) (ld19 9 rfl) ?_
  refine g_arg (k := 2) C (by omega) (by decide) (ld19 10 rfl) (ld19 11 rfl) (ld19 12 rfl) (ld19 13 rfl) (ld19 14 rfl) ?_
  refine g_vc (rn := 89) (a := 0) (o := 7) (as := [.int (xs (j + 1)), .int (xs (j + 2))]) (st := []) C (by decide) (by decide) m1 c1 (g_run (as := (.ref 0 :: [.int (xs (j + 1)), .int (xs (j + 2))])) (by decide) (Nat.le_of_ble_eq_true rfl) r1) ⟨rfl, by decide, rfl, by decide, rfl⟩ a1 lk_125 (Nat.le_of_ble_eq_true rfl) (ld19 15 rfl) ?_
  refine g_al2 C (ld19 16 rfl) ?_
  refine g_arg (k := 1) C (by omega) (by decide) (ld19 17 rfl) (ld19 18 rfl) (ld19 19 rfl) (ld19 20 rfl) (ld19 21 rfl) ?_
  refine g_arg (k := 2) C (by omega) (by decide) (ld19 22 rfl) (ld19 23 rfl) (ld19 24 rfl) (ld19 25 rfl) (ld19 26 rfl) ?_
  refine g_vc (rn := 234) (a := 102) (o := 9) (as := [.int (xs (j + 1)), .int (xs (j + 2))]) (st := [.int a]) C (by decide) (by decide) m2 c2 (g_run (as := (.ref 102 :: [.int (xs (j + 1)), .int (xs (j + 2))])) (by decide) (Nat.le_of_ble_eq_true rfl) r2) ⟨rfl, by decide, rfl, by decide, rfl⟩ a2 lk_128 (Nat.le_of_ble_eq_true rfl) (ld19 27 rfl) ?_
  refine g_eqi C (ld19 28 rfl) (by decide) ?_
  exact kend υ hgN
theorem q_26 (C : GC p l s m c dd cy z sa av b L xs) (hW : Wd σ) (hO : gO σ) (hcap : mN σ + 12 ≤ 601024 ∧ mU σ + 98 ≤ 7293034) (hj : j + 5 < L) (kend : ∀ υ, gN σ υ → lW p l e s m below meth c Q dd cy z sa b [] (nI j) 1874 [] υ) : lW p l e s m below meth c Q dd cy z sa b [] (nI j) 1159 [] σ := by
  obtain ⟨a, τ, υ, hF, hG, hN1, hN2, hW2⟩ := w90 hW (xs (j + 1))
  have r1 := e90 8 hF
  have r2 := e235 10 hG
  obtain ⟨m1, m2, a1, a2, hgN⟩ := g_pair hW hO r1 r2 hN1 hN2 hW2
  have c2 : mN υ ≤ 601024 ∧ mU υ ≤ 7293034 := by
    obtain ⟨-, -, x1, x2⟩ := hgN
    omega
  have c1 : mN τ ≤ 601024 ∧ mU τ ≤ 7293034 := by omega
  refine g_al1 C (ld19 29 rfl) ?_
  refine g_arg (k := 1) C (by omega) (by decide) (ld20 0 rfl) (ld20 1 rfl) (ld20 2 rfl) (ld20 3 rfl) (ld20 4 rfl) ?_
  refine g_vc (rn := 90) (a := 0) (o := 7) (as := [.int (xs (j + 1))]) (st := []) C (by decide) (by decide) m1 c1 (g_run (as := (.ref 0 :: [.int (xs (j + 1))])) (by decide) (Nat.le_of_ble_eq_true rfl) r1) ⟨rfl, by decide, rfl, by decide, rfl⟩ a1 lk_129 (Nat.le_of_ble_eq_true rfl) (ld20 5 rfl) ?_
  refine g_al2 C (ld20 6 rfl) ?_
  refine g_arg (k := 1) C (by omega) (by decide) (ld20 7 rfl) (ld20 8 rfl) (ld20 9 rfl) (ld20 10 rfl) (ld20 11 rfl) ?_
  refine g_vc (rn := 235) (a := 102) (o := 9) (as := [.int (xs (j + 1))]) (st := [.int a]) C (by decide) (by decide) m2 c2 (g_run (as := (.ref 102 :: [.int (xs (j + 1))])) (by decide) (Nat.le_of_ble_eq_true rfl) r2) ⟨rfl, by decide, rfl, by decide, rfl⟩ a2 lk_132 (Nat.le_of_ble_eq_true rfl) (ld20 12 rfl) ?_
  refine g_eqi C (ld20 13 rfl) (by decide) ?_
  exact kend υ hgN
theorem q_27 (C : GC p l s m c dd cy z sa av b L xs) (hW : Wd σ) (hO : gO σ) (hcap : mN σ + 12 ≤ 601024 ∧ mU σ + 98 ≤ 7293034) (hj : j + 5 < L) (kend : ∀ υ, gN σ υ → lW p l e s m below meth c Q dd cy z sa b [] (nI j) 1874 [] υ) : lW p l e s m below meth c Q dd cy z sa b [] (nI j) 1184 [] σ := by
  obtain ⟨a, τ, υ, hF, hG, hN1, hN2, hW2⟩ := w91 hW (xs (j + 1)) (xs (j + 2))
  have r1 := e91 11 hF
  have r2 := e236 11 hG
  obtain ⟨m1, m2, a1, a2, hgN⟩ := g_pair hW hO r1 r2 hN1 hN2 hW2
  have c2 : mN υ ≤ 601024 ∧ mU υ ≤ 7293034 := by
    obtain ⟨-, -, x1, x2⟩ := hgN
    omega
  have c1 : mN τ ≤ 601024 ∧ mU τ ≤ 7293034 := by omega
  refine g_al1 C (ld20 14 rfl) ?_
  refine g_arg (k := 1) C (by omega) (by decide) (ld20 15 rfl) (ld20 16 rfl) (ld20 17 rfl) (ld20 18 rfl) (ld20 19 rfl) ?_
  refine g_arg (k := 2) C (by omega) (by decide) (ld20 20 rfl) (ld20 21 rfl) (ld20 22 rfl) (ld20 23 rfl) (ld20 24 rfl) ?_
  refine g_vc (rn := 91) (a := 0) (o := 7) (as := [.int (xs (j + 1)), .int (xs (j + 2))]) (st := []) C (by decide) (by decide) m1 c1 (g_run (as := (.ref 0 :: [.int (xs (j + 1)), .int (xs (j + 2))])) (by decide) (Nat.le_of_ble_eq_true rfl) r1) ⟨rfl, by decide, rfl, by decide, rfl⟩ a1 lk_133 (Nat.le_of_ble_eq_true rfl) (ld20 25 rfl) ?_
  refine g_al2 C (ld20 26 rfl) ?_
  refine g_arg (k := 1) C (by omega) (by decide) (ld20 27 rfl) (ld20 28 rfl) (ld20 29 rfl) (ld21 0 rfl) (ld21 1 rfl) ?_
  refine g_arg (k := 2) C (by omega) (by decide) (ld21 2 rfl) (ld21 3 rfl) (ld21 4 rfl) (ld21 5 rfl) (ld21 6 rfl) ?_
  refine g_vc (rn := 236) (a := 102) (o := 9) (as := [.int (xs (j + 1)), .int (xs (j + 2))]) (st := [.int a]) C (by decide) (by decide) m2 c2 (g_run (as := (.ref 102 :: [.int (xs (j + 1)), .int (xs (j + 2))])) (by decide) (Nat.le_of_ble_eq_true rfl) r2) ⟨rfl, by decide, rfl, by decide, rfl⟩ a2 lk_136 (Nat.le_of_ble_eq_true rfl) (ld21 7 rfl) ?_
  refine g_eqi C (ld21 8 rfl) (by decide) ?_
  exact kend υ hgN
theorem q_28 (C : GC p l s m c dd cy z sa av b L xs) (hW : Wd σ) (hO : gO σ) (hcap : mN σ + 12 ≤ 601024 ∧ mU σ + 98 ≤ 7293034) (hj : j + 5 < L) (kend : ∀ υ, gN σ υ → lW p l e s m below meth c Q dd cy z sa b [] (nI j) 1874 [] υ) : lW p l e s m below meth c Q dd cy z sa b [] (nI j) 1221 [] σ := by
  obtain ⟨a, τ, υ, hF, hG, hN1, hN2, hW2⟩ := w92 hW
  have r1 := e92 9 hF
  have r2 := e241 8 hG
  obtain ⟨m1, m2, a1, a2, hgN⟩ := g_pair hW hO r1 r2 hN1 hN2 hW2
  have c2 : mN υ ≤ 601024 ∧ mU υ ≤ 7293034 := by
    obtain ⟨-, -, x1, x2⟩ := hgN
    omega
  have c1 : mN τ ≤ 601024 ∧ mU τ ≤ 7293034 := by omega
  refine g_al1 C (ld21 9 rfl) ?_
  refine g_vc (rn := 92) (a := 0) (o := 7) (as := []) (st := []) C (by decide) (by decide) m1 c1 (g_run (as := (.ref 0 :: [])) (by decide) (Nat.le_of_ble_eq_true rfl) r1) ⟨rfl, by decide, rfl, by decide, rfl⟩ a1 lk_137 (Nat.le_of_ble_eq_true rfl) (ld21 10 rfl) ?_
  refine g_al2 C (ld21 11 rfl) ?_
  refine g_vc (rn := 241) (a := 102) (o := 9) (as := []) (st := [.int a]) C (by decide) (by decide) m2 c2 (g_run (as := (.ref 102 :: [])) (by decide) (Nat.le_of_ble_eq_true rfl) r2) ⟨rfl, by decide, rfl, by decide, rfl⟩ a2 lk_140 (Nat.le_of_ble_eq_true rfl) (ld21 12 rfl) ?_
  refine g_eqi C (ld21 13 rfl) (by decide) ?_
  exact kend υ hgN
theorem q_29 (C : GC p l s m c dd cy z sa av b L xs) (hW : Wd σ) (hO : gO σ) (hcap : mN σ + 12 ≤ 601024 ∧ mU σ + 98 ≤ 7293034) (hj : j + 5 < L) (kend : ∀ υ, gN σ υ → lW p l e s m below meth c Q dd cy z sa b [] (nI j) 1874 [] υ) : lW p l e s m below meth c Q dd cy z sa b [] (nI j) 1234 [] σ := by
  obtain ⟨a, τ, υ, hF, hG, hN1, hN2, hW2⟩ := w93 hW (xs (j + 1)) (xs (j + 2))
  have r1 := e93 9 hF
  have r2 := e242 8 hG
  obtain ⟨m1, m2, a1, a2, hgN⟩ := g_pair hW hO r1 r2 hN1 hN2 hW2
  have c2 : mN υ ≤ 601024 ∧ mU υ ≤ 7293034 := by
    obtain ⟨-, -, x1, x2⟩ := hgN
    omega
  have c1 : mN τ ≤ 601024 ∧ mU τ ≤ 7293034 := by omega
  refine g_al1 C (ld21 14 rfl) ?_
  refine g_arg (k := 1) C (by omega) (by decide) (ld21 15 rfl) (ld21 16 rfl) (ld21 17 rfl) (ld21 18 rfl) (ld21 19 rfl) ?_
  refine g_arg (k := 2) C (by omega) (by decide) (ld21 20 rfl) (ld21 21 rfl) (ld21 22 rfl) (ld21 23 rfl) (ld21 24 rfl) ?_
  refine g_vc (rn := 93) (a := 0) (o := 7) (as := [.int (xs (j + 1)), .int (xs (j + 2))]) (st := []) C (by decide) (by decide) m1 c1 (g_run (as := (.ref 0 :: [.int (xs (j + 1)), .int (xs (j + 2))])) (by decide) (Nat.le_of_ble_eq_true rfl) r1) ⟨rfl, by decide, rfl, by decide, rfl⟩ a1 lk_141 (Nat.le_of_ble_eq_true rfl) (ld21 25 rfl) ?_
  refine g_al2 C (ld21 26 rfl) ?_
  refine g_arg (k := 1) C (by omega) (by decide) (ld21 27 rfl) (ld21 28 rfl) (ld21 29 rfl) (ld22 0 rfl) (ld22 1 rfl) ?_
  refine g_arg (k := 2) C (by omega) (by decide) (ld22 2 rfl) (ld22 3 rfl) (ld22 4 rfl) (ld22 5 rfl) (ld22 6 rfl) ?_
  refine g_vc (rn := 242) (a := 102) (o := 9) (as := [.int (xs (j + 1)), .int (xs (j + 2))]) (st := [.int a]) C (by decide) (by decide) m2 c2 (g_run (as := (.ref 102 :: [.int (xs (j + 1)), .int (xs (j + 2))])) (by decide) (Nat.le_of_ble_eq_true rfl) r2) ⟨rfl, by decide, rfl, by decide, rfl⟩ a2 lk_144 (Nat.le_of_ble_eq_true rfl) (ld22 7 rfl) ?_
  refine g_eqi C (ld22 8 rfl) (by decide) ?_
  exact kend υ hgN
theorem q_30 (C : GC p l s m c dd cy z sa av b L xs) (hW : Wd σ) (hO : gO σ) (hcap : mN σ + 12 ≤ 601024 ∧ mU σ + 98 ≤ 7293034) (hj : j + 5 < L) (kend : ∀ υ, gN σ υ → lW p l e s m below meth c Q dd cy z sa b [] (nI j) 1874 [] υ) : lW p l e s m below meth c Q dd cy z sa b [] (nI j) 1271 [] σ := by
  obtain ⟨a, τ, υ, hF, hG, hN1, hN2, hW2⟩ := w94 hW (xs (j + 1)) (xs (j + 2))
  have r1 := e94 9 hF
  have r2 := e243 8 hG
  obtain ⟨m1, m2, a1, a2, hgN⟩ := g_pair hW hO r1 r2 hN1 hN2 hW2
  have c2 : mN υ ≤ 601024 ∧ mU υ ≤ 7293034 := by
    obtain ⟨-, -, x1, x2⟩ := hgN
    omega
  have c1 : mN τ ≤ 601024 ∧ mU τ ≤ 7293034 := by omega
  refine g_al1 C (ld22 9 rfl) ?_
  refine g_arg (k := 1) C (by omega) (by decide) (ld22 10 rfl) (ld22 11 rfl) (ld22 12 rfl) (ld22 13 rfl) (ld22 14 rfl) ?_
  refine g_arg (k := 2) C (by omega) (by decide) (ld22 15 rfl) (ld22 16 rfl) (ld22 17 rfl) (ld22 18 rfl) (ld22 19 rfl) ?_
  refine g_vc (rn := 94) (a := 0) (o := 7) (as := [.int (xs (j + 1)), .int (xs (j + 2))]) (st := []) C (by decide) (by decide) m1 c1 (g_run (as := (.ref 0 :: [.int (xs (j + 1)), .int (xs (j + 2))])) (by decide) (Nat.le_of_ble_eq_true rfl) r1) ⟨rfl, by decide, rfl, by decide, rfl⟩ a1 lk_145 (Nat.le_of_ble_eq_true rfl) (ld22 20 rfl) ?_
  refine g_al2 C (ld22 21 rfl) ?_
  refine g_arg (k := 1) C (by omega) (by decide) (ld22 22 rfl) (ld22 23 rfl) (ld22 24 rfl) (ld22 25 rfl) (ld22 26 rfl) ?_
  refine g_arg (k := 2) C (by omega) (by decide) (ld22 27 rfl) (ld22 28 rfl) (ld22 29 rfl) (ld23 0 rfl) (ld23 1 rfl) ?_
  refine g_vc (rn := 243) (a := 102) (o := 9) (as := [.int (xs (j + 1)), .int (xs (j + 2))]) (st := [.int a]) C (by decide) (by decide) m2 c2 (g_run (as := (.ref 102 :: [.int (xs (j + 1)), .int (xs (j + 2))])) (by decide) (Nat.le_of_ble_eq_true rfl) r2) ⟨rfl, by decide, rfl, by decide, rfl⟩ a2 lk_148 (Nat.le_of_ble_eq_true rfl) (ld23 2 rfl) ?_
  refine g_eqi C (ld23 3 rfl) (by decide) ?_
  exact kend υ hgN
theorem q_31 (C : GC p l s m c dd cy z sa av b L xs) (hW : Wd σ) (hO : gO σ) (hcap : mN σ + 12 ≤ 601024 ∧ mU σ + 98 ≤ 7293034) (hj : j + 5 < L) (kend : ∀ υ, gN σ υ → lW p l e s m below meth c Q dd cy z sa b [] (nI j) 1874 [] υ) : lW p l e s m below meth c Q dd cy z sa b [] (nI j) 1308 [] σ := by
  obtain ⟨a, τ, υ, hF, hG, hN1, hN2, hW2⟩ := w95 hW
  have r1 := e95 8 hF
  have r2 := e245 7 hG
  obtain ⟨m1, m2, a1, a2, hgN⟩ := g_pair hW hO r1 r2 hN1 hN2 hW2
  have c2 : mN υ ≤ 601024 ∧ mU υ ≤ 7293034 := by
    obtain ⟨-, -, x1, x2⟩ := hgN
    omega
  have c1 : mN τ ≤ 601024 ∧ mU τ ≤ 7293034 := by omega
  refine g_al1 C (ld23 4 rfl) ?_
  refine g_vc (rn := 95) (a := 0) (o := 7) (as := []) (st := []) C (by decide) (by decide) m1 c1 (g_run (as := (.ref 0 :: [])) (by decide) (Nat.le_of_ble_eq_true rfl) r1) ⟨rfl, by decide, rfl, by decide, rfl⟩ a1 lk_149 (Nat.le_of_ble_eq_true rfl) (ld23 5 rfl) ?_
  refine g_al2 C (ld23 6 rfl) ?_
  refine g_vc (rn := 245) (a := 102) (o := 9) (as := []) (st := [.int a]) C (by decide) (by decide) m2 c2 (g_run (as := (.ref 102 :: [])) (by decide) (Nat.le_of_ble_eq_true rfl) r2) ⟨rfl, by decide, rfl, by decide, rfl⟩ a2 lk_152 (Nat.le_of_ble_eq_true rfl) (ld23 7 rfl) ?_
  refine g_eqi C (ld23 8 rfl) (by decide) ?_
  exact kend υ hgN
theorem q_32 (C : GC p l s m c dd cy z sa av b L xs) (hW : Wd σ) (hO : gO σ) (hcap : mN σ + 12 ≤ 601024 ∧ mU σ + 98 ≤ 7293034) (hj : j + 5 < L) (kend : ∀ υ, gN σ υ → lW p l e s m below meth c Q dd cy z sa b [] (nI j) 1874 [] υ) : lW p l e s m below meth c Q dd cy z sa b [] (nI j) 1321 [] σ := by
  obtain ⟨a, τ, υ, hF, hG, hN1, hN2, hW2⟩ := w96 hW
  have r1 := e96 8 hF
  have r2 := e246 7 hG
  obtain ⟨m1, m2, a1, a2, hgN⟩ := g_pair hW hO r1 r2 hN1 hN2 hW2
  have c2 : mN υ ≤ 601024 ∧ mU υ ≤ 7293034 := by
    obtain ⟨-, -, x1, x2⟩ := hgN
    omega
  have c1 : mN τ ≤ 601024 ∧ mU τ ≤ 7293034 := by omega
  refine g_al1 C (ld23 9 rfl) ?_
  refine g_vc (rn := 96) (a := 0) (o := 7) (as := []) (st := []) C (by decide) (by decide) m1 c1 (g_run (as := (.ref 0 :: [])) (by decide) (Nat.le_of_ble_eq_true rfl) r1) ⟨rfl, by decide, rfl, by decide, rfl⟩ a1 lk_153 (Nat.le_of_ble_eq_true rfl) (ld23 10 rfl) ?_
  refine g_al2 C (ld23 11 rfl) ?_
  refine g_vc (rn := 246) (a := 102) (o := 9) (as := []) (st := [.int a]) C (by decide) (by decide) m2 c2 (g_run (as := (.ref 102 :: [])) (by decide) (Nat.le_of_ble_eq_true rfl) r2) ⟨rfl, by decide, rfl, by decide, rfl⟩ a2 lk_156 (Nat.le_of_ble_eq_true rfl) (ld23 12 rfl) ?_
  refine g_eqi C (ld23 13 rfl) (by decide) ?_
  exact kend υ hgN
theorem q_33 (C : GC p l s m c dd cy z sa av b L xs) (hW : Wd σ) (hO : gO σ) (hcap : mN σ + 12 ≤ 601024 ∧ mU σ + 98 ≤ 7293034) (hj : j + 5 < L) (kend : ∀ υ, gN σ υ → lW p l e s m below meth c Q dd cy z sa b [] (nI j) 1874 [] υ) : lW p l e s m below meth c Q dd cy z sa b [] (nI j) 1334 [] σ := by
  obtain ⟨a, τ, υ, hF, hG, hN1, hN2, hW2⟩ := w97 hW
  have r1 := e97 10 hF
  have r2 := e247 9 hG
  obtain ⟨m1, m2, a1, a2, hgN⟩ := g_pair hW hO r1 r2 hN1 hN2 hW2
  have c2 : mN υ ≤ 601024 ∧ mU υ ≤ 7293034 := by
    obtain ⟨-, -, x1, x2⟩ := hgN
    omega
  have c1 : mN τ ≤ 601024 ∧ mU τ ≤ 7293034 := by omega
  refine g_al1 C (ld23 14 rfl) ?_
  refine g_vc (rn := 97) (a := 0) (o := 7) (as := []) (st := []) C (by decide) (by decide) m1 c1 (g_run (as := (.ref 0 :: [])) (by decide) (Nat.le_of_ble_eq_true rfl) r1) ⟨rfl, by decide, rfl, by decide, rfl⟩ a1 lk_157 (Nat.le_of_ble_eq_true rfl) (ld23 15 rfl) ?_
  refine g_al2 C (ld23 16 rfl) ?_
  refine g_vc (rn := 247) (a := 102) (o := 9) (as := []) (st := [.int a]) C (by decide) (by decide) m2 c2 (g_run (as := (.ref 102 :: [])) (by decide) (Nat.le_of_ble_eq_true rfl) r2) ⟨rfl, by decide, rfl, by decide, rfl⟩ a2 lk_160 (Nat.le_of_ble_eq_true rfl) (ld23 17 rfl) ?_
  refine g_eqi C (ld23 18 rfl) (by decide) ?_
  exact kend υ hgN
theorem q_34 (C : GC p l s m c dd cy z sa av b L xs) (hW : Wd σ) (hO : gO σ) (hcap : mN σ + 12 ≤ 601024 ∧ mU σ + 98 ≤ 7293034) (hj : j + 5 < L) (kend : ∀ υ, gN σ υ → lW p l e s m below meth c Q dd cy z sa b [] (nI j) 1874 [] υ) : lW p l e s m below meth c Q dd cy z sa b [] (nI j) 1347 [] σ := by
  obtain ⟨a, τ, υ, hF, hG, hN1, hN2, hW2⟩ := w98 hW (xs (j + 1)) (gB (xs (j + 2))) (gB (xs (j + 3))) (gB (xs (j + 4)))
  have r1 := e98 11 hF
  have r2 := e251 11 hG
  obtain ⟨m1, m2, a1, a2, hgN⟩ := g_pair hW hO r1 r2 hN1 hN2 hW2
  have c2 : mN υ ≤ 601024 ∧ mU υ ≤ 7293034 := by
    obtain ⟨-, -, x1, x2⟩ := hgN
    omega
  have c1 : mN τ ≤ 601024 ∧ mU τ ≤ 7293034 := by omega
  refine g_al1 C (ld23 19 rfl) ?_
  refine g_arg (k := 1) C (by omega) (by decide) (ld23 20 rfl) (ld23 21 rfl) (ld23 22 rfl) (ld23 23 rfl) (ld23 24 rfl) ?_
  refine g_arg (k := 2) C (by omega) (by decide) (ld23 25 rfl) (ld23 26 rfl) (ld23 27 rfl) (ld23 28 rfl) (ld23 29 rfl) ?_
  refine g_bool C (ld24 0 rfl) (ld24 1 rfl) (ld24 2 rfl) (ld24 3 rfl) ?_
  refine g_arg (k := 3) C (by omega) (by decide) (ld24 4 rfl) (ld24 5 rfl) (ld24 6 rfl) (ld24 7 rfl) (ld24 8 rfl) ?_
  refine g_bool C (ld24 9 rfl) (ld24 10 rfl) (ld24 11 rfl) (ld24 12 rfl) ?_
  refine g_arg (k := 4) C (by omega) (by decide) (ld24 13 rfl) (ld24 14 rfl) (ld24 15 rfl) (ld24 16 rfl) (ld24 17 rfl) ?_
  refine g_bool C (ld24 18 rfl) (ld24 19 rfl) (ld24 20 rfl) (ld24 21 rfl) ?_
  refine g_vc (rn := 98) (a := 0) (o := 7) (as := [.int (xs (j + 1)), .int (gB (xs (j + 2))), .int (gB (xs (j + 3))), .int (gB (xs (j + 4)))]) (st := []) C (by decide) (by decide) m1 c1 (g_run (as := (.ref 0 :: [.int (xs (j + 1)), .int (gB (xs (j + 2))), .int (gB (xs (j + 3))), .int (gB (xs (j + 4)))])) (by decide) (Nat.le_of_ble_eq_true rfl) r1) ⟨rfl, by decide, rfl, by decide, rfl⟩ a1 lk_161 (Nat.le_of_ble_eq_true rfl) (ld24 22 rfl) ?_
  refine g_al2 C (ld24 23 rfl) ?_
  refine g_arg (k := 1) C (by omega) (by decide) (ld24 24 rfl) (ld24 25 rfl) (ld24 26 rfl) (ld24 27 rfl) (ld24 28 rfl) ?_
  refine g_arg (k := 2) C (by omega) (by decide) (ld24 29 rfl) (ld25 0 rfl) (ld25 1 rfl) (ld25 2 rfl) (ld25 3 rfl) ?_
  refine g_bool C (ld25 4 rfl) (ld25 5 rfl) (ld25 6 rfl) (ld25 7 rfl) ?_
  refine g_arg (k := 3) C (by omega) (by decide) (ld25 8 rfl) (ld25 9 rfl) (ld25 10 rfl) (ld25 11 rfl) (ld25 12 rfl) ?_
  refine g_bool C (ld25 13 rfl) (ld25 14 rfl) (ld25 15 rfl) (ld25 16 rfl) ?_
  refine g_arg (k := 4) C (by omega) (by decide) (ld25 17 rfl) (ld25 18 rfl) (ld25 19 rfl) (ld25 20 rfl) (ld25 21 rfl) ?_
  refine g_bool C (ld25 22 rfl) (ld25 23 rfl) (ld25 24 rfl) (ld25 25 rfl) ?_
  refine g_vc (rn := 251) (a := 102) (o := 9) (as := [.int (xs (j + 1)), .int (gB (xs (j + 2))), .int (gB (xs (j + 3))), .int (gB (xs (j + 4)))]) (st := [.int a]) C (by decide) (by decide) m2 c2 (g_run (as := (.ref 102 :: [.int (xs (j + 1)), .int (gB (xs (j + 2))), .int (gB (xs (j + 3))), .int (gB (xs (j + 4)))])) (by decide) (Nat.le_of_ble_eq_true rfl) r2) ⟨rfl, by decide, rfl, by decide, rfl⟩ a2 lk_165 (Nat.le_of_ble_eq_true rfl) (ld25 26 rfl) ?_
  refine g_eqi C (ld25 27 rfl) (by decide) ?_
  exact kend υ hgN
theorem q_35 (C : GC p l s m c dd cy z sa av b L xs) (hW : Wd σ) (hO : gO σ) (hcap : mN σ + 12 ≤ 601024 ∧ mU σ + 98 ≤ 7293034) (hj : j + 5 < L) (kend : ∀ υ, gN σ υ → lW p l e s m below meth c Q dd cy z sa b [] (nI j) 1874 [] υ) : lW p l e s m below meth c Q dd cy z sa b [] (nI j) 1456 [] σ := by
  obtain ⟨a, τ, υ, hF, hG, hN1, hN2, hW2⟩ := w99 hW (xs (j + 1))
  have r1 := e99 11 hF
  have r2 := e253 11 hG
  obtain ⟨m1, m2, a1, a2, hgN⟩ := g_pair hW hO r1 r2 hN1 hN2 hW2
  have c2 : mN υ ≤ 601024 ∧ mU υ ≤ 7293034 := by
    obtain ⟨-, -, x1, x2⟩ := hgN
    omega
  have c1 : mN τ ≤ 601024 ∧ mU τ ≤ 7293034 := by omega
  refine g_al1 C (ld25 28 rfl) ?_
  refine g_arg (k := 1) C (by omega) (by decide) (ld25 29 rfl) (ld26 0 rfl) (ld26 1 rfl) (ld26 2 rfl) (ld26 3 rfl) ?_
  refine g_vc (rn := 99) (a := 0) (o := 7) (as := [.int (xs (j + 1))]) (st := []) C (by decide) (by decide) m1 c1 (g_run (as := (.ref 0 :: [.int (xs (j + 1))])) (by decide) (Nat.le_of_ble_eq_true rfl) r1) ⟨rfl, by decide, rfl, by decide, rfl⟩ a1 lk_166 (Nat.le_of_ble_eq_true rfl) (ld26 4 rfl) ?_
  refine g_al2 C (ld26 5 rfl) ?_
  refine g_arg (k := 1) C (by omega) (by decide) (ld26 6 rfl) (ld26 7 rfl) (ld26 8 rfl) (ld26 9 rfl) (ld26 10 rfl) ?_
  refine g_vc (rn := 253) (a := 102) (o := 9) (as := [.int (xs (j + 1))]) (st := [.int a]) C (by decide) (by decide) m2 c2 (g_run (as := (.ref 102 :: [.int (xs (j + 1))])) (by decide) (Nat.le_of_ble_eq_true rfl) r2) ⟨rfl, by decide, rfl, by decide, rfl⟩ a2 lk_169 (Nat.le_of_ble_eq_true rfl) (ld26 11 rfl) ?_
  refine g_eqi C (ld26 12 rfl) (by decide) ?_
  exact kend υ hgN
theorem q_36 (C : GC p l s m c dd cy z sa av b L xs) (hW : Wd σ) (hO : gO σ) (hcap : mN σ + 12 ≤ 601024 ∧ mU σ + 98 ≤ 7293034) (hj : j + 5 < L) (kend : ∀ υ, gN σ υ → lW p l e s m below meth c Q dd cy z sa b [] (nI j) 1874 [] υ) : lW p l e s m below meth c Q dd cy z sa b [] (nI j) 1481 [] σ := by
  obtain ⟨a, τ, υ, hF, hG, hN1, hN2, hW2⟩ := w100 hW (xs (j + 1))
  have r1 := e100 11 hF
  have r2 := e254 11 hG
  obtain ⟨m1, m2, a1, a2, hgN⟩ := g_pair hW hO r1 r2 hN1 hN2 hW2
  have c2 : mN υ ≤ 601024 ∧ mU υ ≤ 7293034 := by
    obtain ⟨-, -, x1, x2⟩ := hgN
    omega
  have c1 : mN τ ≤ 601024 ∧ mU τ ≤ 7293034 := by omega
  refine g_al1 C (ld26 13 rfl) ?_
  refine g_arg (k := 1) C (by omega) (by decide) (ld26 14 rfl) (ld26 15 rfl) (ld26 16 rfl) (ld26 17 rfl) (ld26 18 rfl) ?_
  refine g_vc (rn := 100) (a := 0) (o := 7) (as := [.int (xs (j + 1))]) (st := []) C (by decide) (by decide) m1 c1 (g_run (as := (.ref 0 :: [.int (xs (j + 1))])) (by decide) (Nat.le_of_ble_eq_true rfl) r1) ⟨rfl, by decide, rfl, by decide, rfl⟩ a1 lk_170 (Nat.le_of_ble_eq_true rfl) (ld26 19 rfl) ?_
  refine g_al2 C (ld26 20 rfl) ?_
  refine g_arg (k := 1) C (by omega) (by decide) (ld26 21 rfl) (ld26 22 rfl) (ld26 23 rfl) (ld26 24 rfl) (ld26 25 rfl) ?_
  refine g_vc (rn := 254) (a := 102) (o := 9) (as := [.int (xs (j + 1))]) (st := [.int a]) C (by decide) (by decide) m2 c2 (g_run (as := (.ref 102 :: [.int (xs (j + 1))])) (by decide) (Nat.le_of_ble_eq_true rfl) r2) ⟨rfl, by decide, rfl, by decide, rfl⟩ a2 lk_173 (Nat.le_of_ble_eq_true rfl) (ld26 26 rfl) ?_
  refine g_eqi C (ld26 27 rfl) (by decide) ?_
  exact kend υ hgN
theorem q_37 (C : GC p l s m c dd cy z sa av b L xs) (hW : Wd σ) (hO : gO σ) (hcap : mN σ + 12 ≤ 601024 ∧ mU σ + 98 ≤ 7293034) (hj : j + 5 < L) (kend : ∀ υ, gN σ υ → lW p l e s m below meth c Q dd cy z sa b [] (nI j) 1874 [] υ) : lW p l e s m below meth c Q dd cy z sa b [] (nI j) 1506 [] σ := by
  obtain ⟨a, τ, υ, hF, hG, hN1, hN2, hW2⟩ := w101 hW (xs (j + 1)) (xs (j + 2)) (xs (j + 3))
  have r1 := e101 8 hF
  have r2 := e258 6 hG
  obtain ⟨m1, m2, a1, a2, hgN⟩ := g_pair hW hO r1 r2 hN1 hN2 hW2
  have c2 : mN υ ≤ 601024 ∧ mU υ ≤ 7293034 := by
    obtain ⟨-, -, x1, x2⟩ := hgN
    omega
  have c1 : mN τ ≤ 601024 ∧ mU τ ≤ 7293034 := by omega
  refine g_al1 C (ld26 28 rfl) ?_
  refine g_arg (k := 1) C (by omega) (by decide) (ld26 29 rfl) (ld27 0 rfl) (ld27 1 rfl) (ld27 2 rfl) (ld27 3 rfl) ?_
  refine g_arg (k := 2) C (by omega) (by decide) (ld27 4 rfl) (ld27 5 rfl) (ld27 6 rfl) (ld27 7 rfl) (ld27 8 rfl) ?_
  refine g_arg (k := 3) C (by omega) (by decide) (ld27 9 rfl) (ld27 10 rfl) (ld27 11 rfl) (ld27 12 rfl) (ld27 13 rfl) ?_
  refine g_vc (rn := 101) (a := 0) (o := 7) (as := [.int (xs (j + 1)), .int (xs (j + 2)), .int (xs (j + 3))]) (st := []) C (by decide) (by decide) m1 c1 (g_run (as := (.ref 0 :: [.int (xs (j + 1)), .int (xs (j + 2)), .int (xs (j + 3))])) (by decide) (Nat.le_of_ble_eq_true rfl) r1) ⟨rfl, by decide, rfl, by decide, rfl⟩ a1 lk_174 (Nat.le_of_ble_eq_true rfl) (ld27 14 rfl) ?_
  refine g_al2 C (ld27 15 rfl) ?_
  refine g_arg (k := 1) C (by omega) (by decide) (ld27 16 rfl) (ld27 17 rfl) (ld27 18 rfl) (ld27 19 rfl) (ld27 20 rfl) ?_
  refine g_arg (k := 2) C (by omega) (by decide) (ld27 21 rfl) (ld27 22 rfl) (ld27 23 rfl) (ld27 24 rfl) (ld27 25 rfl) ?_
  refine g_arg (k := 3) C (by omega) (by decide) (ld27 26 rfl) (ld27 27 rfl) (ld27 28 rfl) (ld27 29 rfl) (ld28 0 rfl) ?_
  refine g_vc (rn := 258) (a := 102) (o := 9) (as := [.int (xs (j + 1)), .int (xs (j + 2)), .int (xs (j + 3))]) (st := [.int a]) C (by decide) (by decide) m2 c2 (g_run (as := (.ref 102 :: [.int (xs (j + 1)), .int (xs (j + 2)), .int (xs (j + 3))])) (by decide) (Nat.le_of_ble_eq_true rfl) r2) ⟨rfl, by decide, rfl, by decide, rfl⟩ a2 lk_178 (Nat.le_of_ble_eq_true rfl) (ld28 1 rfl) ?_
  refine g_eqi C (ld28 2 rfl) (by decide) ?_
  exact kend υ hgN
theorem q_38 (C : GC p l s m c dd cy z sa av b L xs) (hW : Wd σ) (hO : gO σ) (hcap : mN σ + 12 ≤ 601024 ∧ mU σ + 98 ≤ 7293034) (hj : j + 5 < L) (kend : ∀ υ, gN σ υ → lW p l e s m below meth c Q dd cy z sa b [] (nI j) 1874 [] υ) : lW p l e s m below meth c Q dd cy z sa b [] (nI j) 1555 [] σ := by
  obtain ⟨a, τ, υ, hF, hG, hN1, hN2, hW2⟩ := w102 hW (xs (j + 1)) (xs (j + 2))
  have r1 := e102 8 hF
  have r2 := e259 6 hG
  obtain ⟨m1, m2, a1, a2, hgN⟩ := g_pair hW hO r1 r2 hN1 hN2 hW2
  have c2 : mN υ ≤ 601024 ∧ mU υ ≤ 7293034 := by
    obtain ⟨-, -, x1, x2⟩ := hgN
    omega
  have c1 : mN τ ≤ 601024 ∧ mU τ ≤ 7293034 := by omega
  refine g_al1 C (ld28 3 rfl) ?_
  refine g_arg (k := 1) C (by omega) (by decide) (ld28 4 rfl) (ld28 5 rfl) (ld28 6 rfl) (ld28 7 rfl) (ld28 8 rfl) ?_
  refine g_arg (k := 2) C (by omega) (by decide) (ld28 9 rfl) (ld28 10 rfl) (ld28 11 rfl) (ld28 12 rfl) (ld28 13 rfl) ?_
  refine g_vc (rn := 102) (a := 0) (o := 7) (as := [.int (xs (j + 1)), .int (xs (j + 2))]) (st := []) C (by decide) (by decide) m1 c1 (g_run (as := (.ref 0 :: [.int (xs (j + 1)), .int (xs (j + 2))])) (by decide) (Nat.le_of_ble_eq_true rfl) r1) ⟨rfl, by decide, rfl, by decide, rfl⟩ a1 lk_179 (Nat.le_of_ble_eq_true rfl) (ld28 14 rfl) ?_
  refine g_al2 C (ld28 15 rfl) ?_
  refine g_arg (k := 1) C (by omega) (by decide) (ld28 16 rfl) (ld28 17 rfl) (ld28 18 rfl) (ld28 19 rfl) (ld28 20 rfl) ?_
  refine g_arg (k := 2) C (by omega) (by decide) (ld28 21 rfl) (ld28 22 rfl) (ld28 23 rfl) (ld28 24 rfl) (ld28 25 rfl) ?_
  refine g_vc (rn := 259) (a := 102) (o := 9) (as := [.int (xs (j + 1)), .int (xs (j + 2))]) (st := [.int a]) C (by decide) (by decide) m2 c2 (g_run (as := (.ref 102 :: [.int (xs (j + 1)), .int (xs (j + 2))])) (by decide) (Nat.le_of_ble_eq_true rfl) r2) ⟨rfl, by decide, rfl, by decide, rfl⟩ a2 lk_182 (Nat.le_of_ble_eq_true rfl) (ld28 26 rfl) ?_
  refine g_eqi C (ld28 27 rfl) (by decide) ?_
  exact kend υ hgN
theorem q_39 (C : GC p l s m c dd cy z sa av b L xs) (hW : Wd σ) (hO : gO σ) (hcap : mN σ + 12 ≤ 601024 ∧ mU σ + 98 ≤ 7293034) (hj : j + 5 < L) (kend : ∀ υ, gN σ υ → lW p l e s m below meth c Q dd cy z sa b [] (nI j) 1874 [] υ) : lW p l e s m below meth c Q dd cy z sa b [] (nI j) 1592 [] σ := by
  obtain ⟨a, τ, υ, hF, hG, hN1, hN2, hW2⟩ := w103 hW (xs (j + 1)) (xs (j + 2))
  have r1 := e103 9 hF
  have r2 := e260 6 hG
  obtain ⟨m1, m2, a1, a2, hgN⟩ := g_pair hW hO r1 r2 hN1 hN2 hW2
  have c2 : mN υ ≤ 601024 ∧ mU υ ≤ 7293034 := by
    obtain ⟨-, -, x1, x2⟩ := hgN
    omega
  have c1 : mN τ ≤ 601024 ∧ mU τ ≤ 7293034 := by omega
  refine g_al1 C (ld28 28 rfl) ?_
  refine g_arg (k := 1) C (by omega) (by decide) (ld28 29 rfl) (ld29 0 rfl) (ld29 1 rfl) (ld29 2 rfl) (ld29 3 rfl) ?_
  refine g_arg (k := 2) C (by omega) (by decide) (ld29 4 rfl) (ld29 5 rfl) (ld29 6 rfl) (ld29 7 rfl) (ld29 8 rfl) ?_
  refine g_vc (rn := 103) (a := 0) (o := 7) (as := [.int (xs (j + 1)), .int (xs (j + 2))]) (st := []) C (by decide) (by decide) m1 c1 (g_run (as := (.ref 0 :: [.int (xs (j + 1)), .int (xs (j + 2))])) (by decide) (Nat.le_of_ble_eq_true rfl) r1) ⟨rfl, by decide, rfl, by decide, rfl⟩ a1 lk_183 (Nat.le_of_ble_eq_true rfl) (ld29 9 rfl) ?_
  refine g_al2 C (ld29 10 rfl) ?_
  refine g_arg (k := 1) C (by omega) (by decide) (ld29 11 rfl) (ld29 12 rfl) (ld29 13 rfl) (ld29 14 rfl) (ld29 15 rfl) ?_
  refine g_arg (k := 2) C (by omega) (by decide) (ld29 16 rfl) (ld29 17 rfl) (ld29 18 rfl) (ld29 19 rfl) (ld29 20 rfl) ?_
  refine g_vc (rn := 260) (a := 102) (o := 9) (as := [.int (xs (j + 1)), .int (xs (j + 2))]) (st := [.int a]) C (by decide) (by decide) m2 c2 (g_run (as := (.ref 102 :: [.int (xs (j + 1)), .int (xs (j + 2))])) (by decide) (Nat.le_of_ble_eq_true rfl) r2) ⟨rfl, by decide, rfl, by decide, rfl⟩ a2 lk_186 (Nat.le_of_ble_eq_true rfl) (ld29 21 rfl) ?_
  refine g_eqi C (ld29 22 rfl) (by decide) ?_
  exact kend υ hgN
theorem q_40 (C : GC p l s m c dd cy z sa av b L xs) (hW : Wd σ) (hO : gO σ) (hcap : mN σ + 12 ≤ 601024 ∧ mU σ + 98 ≤ 7293034) (hj : j + 5 < L) (kend : ∀ υ, gN σ υ → lW p l e s m below meth c Q dd cy z sa b [] (nI j) 1874 [] υ) : lW p l e s m below meth c Q dd cy z sa b [] (nI j) 1629 [] σ := by
  obtain ⟨a, τ, υ, hF, hG, hN1, hN2, hW2⟩ := w104 hW (xs (j + 1)) (xs (j + 2))
  have r1 := e104 10 hF
  have r2 := e263 11 hG
  obtain ⟨m1, m2, a1, a2, hgN⟩ := g_pair hW hO r1 r2 hN1 hN2 hW2
  have c2 : mN υ ≤ 601024 ∧ mU υ ≤ 7293034 := by
    obtain ⟨-, -, x1, x2⟩ := hgN
    omega
  have c1 : mN τ ≤ 601024 ∧ mU τ ≤ 7293034 := by omega
  refine g_al1 C (ld29 23 rfl) ?_
  refine g_arg (k := 1) C (by omega) (by decide) (ld29 24 rfl) (ld29 25 rfl) (ld29 26 rfl) (ld29 27 rfl) (ld29 28 rfl) ?_
  refine g_arg (k := 2) C (by omega) (by decide) (ld29 29 rfl) (ld30 0 rfl) (ld30 1 rfl) (ld30 2 rfl) (ld30 3 rfl) ?_
  refine g_vc (rn := 104) (a := 0) (o := 7) (as := [.int (xs (j + 1)), .int (xs (j + 2))]) (st := []) C (by decide) (by decide) m1 c1 (g_run (as := (.ref 0 :: [.int (xs (j + 1)), .int (xs (j + 2))])) (by decide) (Nat.le_of_ble_eq_true rfl) r1) ⟨rfl, by decide, rfl, by decide, rfl⟩ a1 lk_187 (Nat.le_of_ble_eq_true rfl) (ld30 4 rfl) ?_
  refine g_al2 C (ld30 5 rfl) ?_
  refine g_arg (k := 1) C (by omega) (by decide) (ld30 6 rfl) (ld30 7 rfl) (ld30 8 rfl) (ld30 9 rfl) (ld30 10 rfl) ?_
  refine g_arg (k := 2) C (by omega) (by decide) (ld30 11 rfl) (ld30 12 rfl) (ld30 13 rfl) (ld30 14 rfl) (ld30 15 rfl) ?_
  refine g_vc (rn := 263) (a := 102) (o := 9) (as := [.int (xs (j + 1)), .int (xs (j + 2))]) (st := [.int a]) C (by decide) (by decide) m2 c2 (g_run (as := (.ref 102 :: [.int (xs (j + 1)), .int (xs (j + 2))])) (by decide) (Nat.le_of_ble_eq_true rfl) r2) ⟨rfl, by decide, rfl, by decide, rfl⟩ a2 lk_190 (Nat.le_of_ble_eq_true rfl) (ld30 16 rfl) ?_
  refine g_eqi C (ld30 17 rfl) (by decide) ?_
  exact kend υ hgN
theorem q_41 (C : GC p l s m c dd cy z sa av b L xs) (hW : Wd σ) (hO : gO σ) (hcap : mN σ + 12 ≤ 601024 ∧ mU σ + 98 ≤ 7293034) (hj : j + 5 < L) (kend : ∀ υ, gN σ υ → lW p l e s m below meth c Q dd cy z sa b [] (nI j) 1874 [] υ) : lW p l e s m below meth c Q dd cy z sa b [] (nI j) 1666 [] σ := by
  obtain ⟨a, τ, υ, hF, hG, hN1, hN2, hW2⟩ := w105 hW (xs (j + 1))
  have r1 := e105 9 hF
  have r2 := e264 8 hG
  obtain ⟨m1, m2, a1, a2, hgN⟩ := g_pair hW hO r1 r2 hN1 hN2 hW2
  have c2 : mN υ ≤ 601024 ∧ mU υ ≤ 7293034 := by
    obtain ⟨-, -, x1, x2⟩ := hgN
    omega
  have c1 : mN τ ≤ 601024 ∧ mU τ ≤ 7293034 := by omega
  refine g_al1 C (ld30 18 rfl) ?_
  refine g_arg (k := 1) C (by omega) (by decide) (ld30 19 rfl) (ld30 20 rfl) (ld30 21 rfl) (ld30 22 rfl) (ld30 23 rfl) ?_
  refine g_vc (rn := 105) (a := 0) (o := 7) (as := [.int (xs (j + 1))]) (st := []) C (by decide) (by decide) m1 c1 (g_run (as := (.ref 0 :: [.int (xs (j + 1))])) (by decide) (Nat.le_of_ble_eq_true rfl) r1) ⟨rfl, by decide, rfl, by decide, rfl⟩ a1 lk_191 (Nat.le_of_ble_eq_true rfl) (ld30 24 rfl) ?_
  refine g_al2 C (ld30 25 rfl) ?_
  refine g_arg (k := 1) C (by omega) (by decide) (ld30 26 rfl) (ld30 27 rfl) (ld30 28 rfl) (ld30 29 rfl) (ld31 0 rfl) ?_
  refine g_vc (rn := 264) (a := 102) (o := 9) (as := [.int (xs (j + 1))]) (st := [.int a]) C (by decide) (by decide) m2 c2 (g_run (as := (.ref 102 :: [.int (xs (j + 1))])) (by decide) (Nat.le_of_ble_eq_true rfl) r2) ⟨rfl, by decide, rfl, by decide, rfl⟩ a2 lk_194 (Nat.le_of_ble_eq_true rfl) (ld31 1 rfl) ?_
  refine g_eqi C (ld31 2 rfl) (by decide) ?_
  exact kend υ hgN
theorem q_42 (C : GC p l s m c dd cy z sa av b L xs) (hW : Wd σ) (hO : gO σ) (hcap : mN σ + 12 ≤ 601024 ∧ mU σ + 98 ≤ 7293034) (hj : j + 5 < L) (kend : ∀ υ, gN σ υ → lW p l e s m below meth c Q dd cy z sa b [] (nI j) 1874 [] υ) : lW p l e s m below meth c Q dd cy z sa b [] (nI j) 1691 [] σ := by
  obtain ⟨a, τ, υ, hF, hG, hN1, hN2, hW2⟩ := w106 hW
  have r1 := e106 9 hF
  have r2 := e265 7 hG
  obtain ⟨m1, m2, a1, a2, hgN⟩ := g_pair hW hO r1 r2 hN1 hN2 hW2
  have c2 : mN υ ≤ 601024 ∧ mU υ ≤ 7293034 := by
    obtain ⟨-, -, x1, x2⟩ := hgN
    omega
  have c1 : mN τ ≤ 601024 ∧ mU τ ≤ 7293034 := by omega
  refine g_al1 C (ld31 3 rfl) ?_
  refine g_vc (rn := 106) (a := 0) (o := 7) (as := []) (st := []) C (by decide) (by decide) m1 c1 (g_run (as := (.ref 0 :: [])) (by decide) (Nat.le_of_ble_eq_true rfl) r1) ⟨rfl, by decide, rfl, by decide, rfl⟩ a1 lk_195 (Nat.le_of_ble_eq_true rfl) (ld31 4 rfl) ?_
  refine g_al2 C (ld31 5 rfl) ?_
  refine g_vc (rn := 265) (a := 102) (o := 9) (as := []) (st := [.int a]) C (by decide) (by decide) m2 c2 (g_run (as := (.ref 102 :: [])) (by decide) (Nat.le_of_ble_eq_true rfl) r2) ⟨rfl, by decide, rfl, by decide, rfl⟩ a2 lk_198 (Nat.le_of_ble_eq_true rfl) (ld31 6 rfl) ?_
  refine g_eqi C (ld31 7 rfl) (by decide) ?_
  exact kend υ hgN
theorem q_43 (C : GC p l s m c dd cy z sa av b L xs) (hW : Wd σ) (hO : gO σ) (hcap : mN σ + 12 ≤ 601024 ∧ mU σ + 98 ≤ 7293034) (hj : j + 5 < L) (kend : ∀ υ, gN σ υ → lW p l e s m below meth c Q dd cy z sa b [] (nI j) 1874 [] υ) : lW p l e s m below meth c Q dd cy z sa b [] (nI j) 1704 [] σ := by
  obtain ⟨a, τ, υ, hF, hG, hN1, hN2, hW2⟩ := w107 hW (xs (j + 1))
  have r1 := e107 12 hF
  have r2 := e266 11 hG
  obtain ⟨m1, m2, a1, a2, hgN⟩ := g_pair hW hO r1 r2 hN1 hN2 hW2
  have c2 : mN υ ≤ 601024 ∧ mU υ ≤ 7293034 := by
    obtain ⟨-, -, x1, x2⟩ := hgN
    omega
  have c1 : mN τ ≤ 601024 ∧ mU τ ≤ 7293034 := by omega
  refine g_al1 C (ld31 8 rfl) ?_
  refine g_arg (k := 1) C (by omega) (by decide) (ld31 9 rfl) (ld31 10 rfl) (ld31 11 rfl) (ld31 12 rfl) (ld31 13 rfl) ?_
  refine g_vc (rn := 107) (a := 0) (o := 7) (as := [.int (xs (j + 1))]) (st := []) C (by decide) (by decide) m1 c1 (g_run (as := (.ref 0 :: [.int (xs (j + 1))])) (by decide) (Nat.le_of_ble_eq_true rfl) r1) ⟨rfl, by decide, rfl, by decide, rfl⟩ a1 lk_199 (Nat.le_of_ble_eq_true rfl) (ld31 14 rfl) ?_
  refine g_al2 C (ld31 15 rfl) ?_
  refine g_arg (k := 1) C (by omega) (by decide) (ld31 16 rfl) (ld31 17 rfl) (ld31 18 rfl) (ld31 19 rfl) (ld31 20 rfl) ?_
  refine g_vc (rn := 266) (a := 102) (o := 9) (as := [.int (xs (j + 1))]) (st := [.int a]) C (by decide) (by decide) m2 c2 (g_run (as := (.ref 102 :: [.int (xs (j + 1))])) (by decide) (Nat.le_of_ble_eq_true rfl) r2) ⟨rfl, by decide, rfl, by decide, rfl⟩ a2 lk_203 (Nat.le_of_ble_eq_true rfl) (ld31 21 rfl) ?_
  refine g_eqi C (ld31 22 rfl) (by decide) ?_
  exact kend υ hgN
theorem q_44 (C : GC p l s m c dd cy z sa av b L xs) (hW : Wd σ) (hO : gO σ) (hcap : mN σ + 12 ≤ 601024 ∧ mU σ + 98 ≤ 7293034) (hj : j + 5 < L) (kend : ∀ υ, gN σ υ → lW p l e s m below meth c Q dd cy z sa b [] (nI j) 1874 [] υ) : lW p l e s m below meth c Q dd cy z sa b [] (nI j) 1729 [] σ := by
  obtain ⟨a, τ, υ, hF, hG, hN1, hN2, hW2⟩ := w108 hW
  have r1 := e108 10 hF
  have r2 := e267 11 hG
  obtain ⟨m1, m2, a1, a2, hgN⟩ := g_pair hW hO r1 r2 hN1 hN2 hW2
  have c2 : mN υ ≤ 601024 ∧ mU υ ≤ 7293034 := by
    obtain ⟨-, -, x1, x2⟩ := hgN
    omega
  have c1 : mN τ ≤ 601024 ∧ mU τ ≤ 7293034 := by omega
  refine g_al1 C (ld31 23 rfl) ?_
  refine g_vc (rn := 108) (a := 0) (o := 7) (as := []) (st := []) C (by decide) (by decide) m1 c1 (g_run (as := (.ref 0 :: [])) (by decide) (Nat.le_of_ble_eq_true rfl) r1) ⟨rfl, by decide, rfl, by decide, rfl⟩ a1 lk_204 (Nat.le_of_ble_eq_true rfl) (ld31 24 rfl) ?_
  refine g_al2 C (ld31 25 rfl) ?_
  refine g_vc (rn := 267) (a := 102) (o := 9) (as := []) (st := [.int a]) C (by decide) (by decide) m2 c2 (g_run (as := (.ref 102 :: [])) (by decide) (Nat.le_of_ble_eq_true rfl) r2) ⟨rfl, by decide, rfl, by decide, rfl⟩ a2 lk_208 (Nat.le_of_ble_eq_true rfl) (ld31 26 rfl) ?_
  refine g_eqi C (ld31 27 rfl) (by decide) ?_
  exact kend υ hgN
theorem q_45 (C : GC p l s m c dd cy z sa av b L xs) (hW : Wd σ) (hO : gO σ) (hcap : mN σ + 12 ≤ 601024 ∧ mU σ + 98 ≤ 7293034) (hj : j + 5 < L) (kend : ∀ υ, gN σ υ → lW p l e s m below meth c Q dd cy z sa b [] (nI j) 1874 [] υ) : lW p l e s m below meth c Q dd cy z sa b [] (nI j) 1742 [] σ := by
  obtain ⟨a, τ, υ, hF, hG, hN1, hN2, hW2⟩ := w109 hW
  have r1 := e109 10 hF
  have r2 := e268 12 hG
  obtain ⟨m1, m2, a1, a2, hgN⟩ := g_pair hW hO r1 r2 hN1 hN2 hW2
  have c2 : mN υ ≤ 601024 ∧ mU υ ≤ 7293034 := by
    obtain ⟨-, -, x1, x2⟩ := hgN
    omega
  have c1 : mN τ ≤ 601024 ∧ mU τ ≤ 7293034 := by omega
  refine g_al1 C (ld31 28 rfl) ?_
  refine g_vc (rn := 109) (a := 0) (o := 7) (as := []) (st := []) C (by decide) (by decide) m1 c1 (g_run (as := (.ref 0 :: [])) (by decide) (Nat.le_of_ble_eq_true rfl) r1) ⟨rfl, by decide, rfl, by decide, rfl⟩ a1 lk_209 (Nat.le_of_ble_eq_true rfl) (ld31 29 rfl) ?_
  refine g_al2 C (ld32 0 rfl) ?_
  refine g_vc (rn := 268) (a := 102) (o := 9) (as := []) (st := [.int a]) C (by decide) (by decide) m2 c2 (g_run (as := (.ref 102 :: [])) (by decide) (Nat.le_of_ble_eq_true rfl) r2) ⟨rfl, by decide, rfl, by decide, rfl⟩ a2 lk_212 (Nat.le_of_ble_eq_true rfl) (ld32 1 rfl) ?_
  refine g_eqi C (ld32 2 rfl) (by decide) ?_
  exact kend υ hgN
theorem q_46 (C : GC p l s m c dd cy z sa av b L xs) (hW : Wd σ) (hO : gO σ) (hcap : mN σ + 12 ≤ 601024 ∧ mU σ + 98 ≤ 7293034) (hj : j + 5 < L) (kend : ∀ υ, gN σ υ → lW p l e s m below meth c Q dd cy z sa b [] (nI j) 1874 [] υ) : lW p l e s m below meth c Q dd cy z sa b [] (nI j) 1755 [] σ := by
  obtain ⟨a, τ, υ, hF, hG, hN1, hN2, hW2⟩ := w110 hW (xs (j + 1))
  have r1 := e110 10 hF
  have r2 := e269 11 hG
  obtain ⟨m1, m2, a1, a2, hgN⟩ := g_pair hW hO r1 r2 hN1 hN2 hW2
  have c2 : mN υ ≤ 601024 ∧ mU υ ≤ 7293034 := by
    obtain ⟨-, -, x1, x2⟩ := hgN
    omega
  have c1 : mN τ ≤ 601024 ∧ mU τ ≤ 7293034 := by omega
  refine g_al1 C (ld32 3 rfl) ?_
  refine g_arg (k := 1) C (by omega) (by decide) (ld32 4 rfl) (ld32 5 rfl) (ld32 6 rfl) (ld32 7 rfl) (ld32 8 rfl) ?_
  refine g_vc (rn := 110) (a := 0) (o := 7) (as := [.int (xs (j + 1))]) (st := []) C (by decide) (by decide) m1 c1 (g_run (as := (.ref 0 :: [.int (xs (j + 1))])) (by decide) (Nat.le_of_ble_eq_true rfl) r1) ⟨rfl, by decide, rfl, by decide, rfl⟩ a1 lk_213 (Nat.le_of_ble_eq_true rfl) (ld32 9 rfl) ?_
  refine g_al2 C (ld32 10 rfl) ?_
  refine g_arg (k := 1) C (by omega) (by decide) (ld32 11 rfl) (ld32 12 rfl) (ld32 13 rfl) (ld32 14 rfl) (ld32 15 rfl) ?_
  refine g_vc (rn := 269) (a := 102) (o := 9) (as := [.int (xs (j + 1))]) (st := [.int a]) C (by decide) (by decide) m2 c2 (g_run (as := (.ref 102 :: [.int (xs (j + 1))])) (by decide) (Nat.le_of_ble_eq_true rfl) r2) ⟨rfl, by decide, rfl, by decide, rfl⟩ a2 lk_216 (Nat.le_of_ble_eq_true rfl) (ld32 16 rfl) ?_
  refine g_eqi C (ld32 17 rfl) (by decide) ?_
  exact kend υ hgN
theorem q_48 (C : GC p l s m c dd cy z sa av b L xs) (hW : Wd σ) (hO : gO σ) (hcap : mN σ + 12 ≤ 601024 ∧ mU σ + 98 ≤ 7293034) (hj : j + 5 < L) (kend : ∀ υ, gN σ υ → lW p l e s m below meth c Q dd cy z sa b [] (nI j) 1874 [] υ) : lW p l e s m below meth c Q dd cy z sa b [] (nI j) 1836 [] σ := by
  obtain ⟨a, τ, υ, hF, hG, hN1, hN2, hW2⟩ := w112 hW (xs (j + 1))
  have r1 := e112 12 hF
  have r2 := e271 12 hG
  obtain ⟨m1, m2, a1, a2, hgN⟩ := g_pair hW hO r1 r2 hN1 hN2 hW2
  have c2 : mN υ ≤ 601024 ∧ mU υ ≤ 7293034 := by
    obtain ⟨-, -, x1, x2⟩ := hgN
    omega
  have c1 : mN τ ≤ 601024 ∧ mU τ ≤ 7293034 := by omega
  refine g_al1 C (ld33 19 rfl) ?_
  refine g_arg (k := 1) C (by omega) (by decide) (ld33 20 rfl) (ld33 21 rfl) (ld33 22 rfl) (ld33 23 rfl) (ld33 24 rfl) ?_
  refine g_vc (rn := 112) (a := 0) (o := 7) (as := [.int (xs (j + 1))]) (st := []) C (by decide) (by decide) m1 c1 (g_run (as := (.ref 0 :: [.int (xs (j + 1))])) (by decide) (Nat.le_of_ble_eq_true rfl) r1) ⟨rfl, by decide, rfl, by decide, rfl⟩ a1 lk_226 (Nat.le_of_ble_eq_true rfl) (ld33 25 rfl) ?_
  refine g_al2 C (ld33 26 rfl) ?_
  refine g_arg (k := 1) C (by omega) (by decide) (ld33 27 rfl) (ld33 28 rfl) (ld33 29 rfl) (ld34 0 rfl) (ld34 1 rfl) ?_
  refine g_vc (rn := 271) (a := 102) (o := 9) (as := [.int (xs (j + 1))]) (st := [.int a]) C (by decide) (by decide) m2 c2 (g_run (as := (.ref 102 :: [.int (xs (j + 1))])) (by decide) (Nat.le_of_ble_eq_true rfl) r2) ⟨rfl, by decide, rfl, by decide, rfl⟩ a2 lk_229 (Nat.le_of_ble_eq_true rfl) (ld34 2 rfl) ?_
  refine g_eqi C (ld34 3 rfl) (by decide) ?_
  exact kend υ hgN
theorem q_49 (C : GC p l s m c dd cy z sa av b L xs) (hW : Wd σ) (hO : gO σ) (hcap : mN σ + 12 ≤ 601024 ∧ mU σ + 98 ≤ 7293034) (hj : j + 5 < L) (kend : ∀ υ, gN σ υ → lW p l e s m below meth c Q dd cy z sa b [] (nI j) 1874 [] υ) : lW p l e s m below meth c Q dd cy z sa b [] (nI j) 1861 [] σ := by
  obtain ⟨a, τ, υ, hF, hG, hN1, hN2, hW2⟩ := w113 hW
  have r1 := e113 13 hF
  have r2 := e272 13 hG
  obtain ⟨m1, m2, a1, a2, hgN⟩ := g_pair hW hO r1 r2 hN1 hN2 hW2
  have c2 : mN υ ≤ 601024 ∧ mU υ ≤ 7293034 := by
    obtain ⟨-, -, x1, x2⟩ := hgN
    omega
  have c1 : mN τ ≤ 601024 ∧ mU τ ≤ 7293034 := by omega
  refine g_al1 C (ld34 4 rfl) ?_
  refine g_vc (rn := 113) (a := 0) (o := 7) (as := []) (st := []) C (by decide) (by decide) m1 c1 (g_run (as := (.ref 0 :: [])) (by decide) (Nat.le_of_ble_eq_true rfl) r1) ⟨rfl, by decide, rfl, by decide, rfl⟩ a1 lk_230 (Nat.le_of_ble_eq_true rfl) (ld34 5 rfl) ?_
  refine g_al2 C (ld34 6 rfl) ?_
  refine g_vc (rn := 272) (a := 102) (o := 9) (as := []) (st := [.int a]) C (by decide) (by decide) m2 c2 (g_run (as := (.ref 102 :: [])) (by decide) (Nat.le_of_ble_eq_true rfl) r2) ⟨rfl, by decide, rfl, by decide, rfl⟩ a2 lk_233 (Nat.le_of_ble_eq_true rfl) (ld34 7 rfl) ?_
  refine g_eqi C (ld34 8 rfl) (by decide) ?_
  exact kend υ hgN
end QC
