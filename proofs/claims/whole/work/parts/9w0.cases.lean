/-! the law's cases -/
set_option maxRecDepth 30000 in
theorem lk_19 : Cond.methodLink "LastAskedLaw" 19 (xE 64).1 ∈ xTs := xTs_of (x_t 318 rfl) rfl
set_option maxRecDepth 30000 in
theorem lk_23 : Cond.methodLink "LastAskedLaw" 23 (xE 182).1 ∈ xTs := xTs_of (x_t 1110 rfl) rfl
set_option maxRecDepth 30000 in
theorem lk_24 : Cond.methodLink "LastAskedLaw" 24 (xE 65).1 ∈ xTs := xTs_of (x_t 326 rfl) rfl
set_option maxRecDepth 30000 in
theorem lk_27 : Cond.methodLink "LastAskedLaw" 27 (xE 183).1 ∈ xTs := xTs_of (x_t 1114 rfl) rfl
set_option maxRecDepth 30000 in
theorem lk_28 : Cond.methodLink "LastAskedLaw" 28 (xE 66).1 ∈ xTs := xTs_of (x_t 479 rfl) rfl
set_option maxRecDepth 30000 in
theorem lk_32 : Cond.methodLink "LastAskedLaw" 32 (xE 184).1 ∈ xTs := xTs_of (x_t 1362 rfl) rfl
set_option maxRecDepth 30000 in
theorem lk_33 : Cond.methodLink "LastAskedLaw" 33 (xE 67).1 ∈ xTs := xTs_of (x_t 483 rfl) rfl
set_option maxRecDepth 30000 in
theorem lk_36 : Cond.methodLink "LastAskedLaw" 36 (xE 185).1 ∈ xTs := xTs_of (x_t 1366 rfl) rfl
set_option maxRecDepth 30000 in
theorem lk_37 : Cond.methodLink "LastAskedLaw" 37 (xE 68).1 ∈ xTs := xTs_of (x_t 487 rfl) rfl
set_option maxRecDepth 30000 in
theorem lk_41 : Cond.methodLink "LastAskedLaw" 41 (xE 201).1 ∈ xTs := xTs_of (x_t 1370 rfl) rfl
set_option maxRecDepth 30000 in
theorem lk_42 : Cond.methodLink "LastAskedLaw" 42 (xE 69).1 ∈ xTs := xTs_of (x_t 509 rfl) rfl
set_option maxRecDepth 30000 in
theorem lk_45 : Cond.methodLink "LastAskedLaw" 45 (xE 202).1 ∈ xTs := xTs_of (x_t 1390 rfl) rfl
set_option maxRecDepth 30000 in
theorem lk_46 : Cond.methodLink "LastAskedLaw" 46 (xE 70).1 ∈ xTs := xTs_of (x_t 518 rfl) rfl
set_option maxRecDepth 30000 in
theorem lk_49 : Cond.methodLink "LastAskedLaw" 49 (xE 204).1 ∈ xTs := xTs_of (x_t 1398 rfl) rfl
set_option maxRecDepth 30000 in
theorem lk_50 : Cond.methodLink "LastAskedLaw" 50 (xE 71).1 ∈ xTs := xTs_of (x_t 539 rfl) rfl
set_option maxRecDepth 30000 in
theorem lk_53 : Cond.methodLink "LastAskedLaw" 53 (xE 206).1 ∈ xTs := xTs_of (x_t 1422 rfl) rfl
set_option maxRecDepth 30000 in
theorem lk_54 : Cond.methodLink "LastAskedLaw" 54 (xE 72).1 ∈ xTs := xTs_of (x_t 547 rfl) rfl
set_option maxRecDepth 30000 in
theorem lk_57 : Cond.methodLink "LastAskedLaw" 57 (xE 207).1 ∈ xTs := xTs_of (x_t 1438 rfl) rfl
set_option maxRecDepth 30000 in
theorem lk_58 : Cond.methodLink "LastAskedLaw" 58 (xE 73).1 ∈ xTs := xTs_of (x_t 560 rfl) rfl
set_option maxRecDepth 30000 in
theorem lk_61 : Cond.methodLink "LastAskedLaw" 61 (xE 208).1 ∈ xTs := xTs_of (x_t 1450 rfl) rfl
set_option maxRecDepth 30000 in
theorem lk_62 : Cond.methodLink "LastAskedLaw" 62 (xE 74).1 ∈ xTs := xTs_of (x_t 568 rfl) rfl
set_option maxRecDepth 30000 in
theorem lk_65 : Cond.methodLink "LastAskedLaw" 65 (xE 209).1 ∈ xTs := xTs_of (x_t 1454 rfl) rfl
set_option maxRecDepth 30000 in
theorem lk_66 : Cond.methodLink "LastAskedLaw" 66 (xE 75).1 ∈ xTs := xTs_of (x_t 576 rfl) rfl
set_option maxRecDepth 30000 in
theorem lk_69 : Cond.methodLink "LastAskedLaw" 69 (xE 211).1 ∈ xTs := xTs_of (x_t 1458 rfl) rfl
set_option maxRecDepth 30000 in
theorem lk_70 : Cond.methodLink "LastAskedLaw" 70 (xE 76).1 ∈ xTs := xTs_of (x_t 584 rfl) rfl
set_option maxRecDepth 30000 in
theorem lk_73 : Cond.methodLink "LastAskedLaw" 73 (xE 212).1 ∈ xTs := xTs_of (x_t 1466 rfl) rfl
set_option maxRecDepth 30000 in
theorem lk_74 : Cond.methodLink "LastAskedLaw" 74 (xE 77).1 ∈ xTs := xTs_of (x_t 588 rfl) rfl
set_option maxRecDepth 30000 in
theorem lk_77 : Cond.methodLink "LastAskedLaw" 77 (xE 213).1 ∈ xTs := xTs_of (x_t 1470 rfl) rfl
set_option maxRecDepth 30000 in
theorem lk_78 : Cond.methodLink "LastAskedLaw" 78 (xE 78).1 ∈ xTs := xTs_of (x_t 592 rfl) rfl
set_option maxRecDepth 30000 in
theorem lk_81 : Cond.methodLink "LastAskedLaw" 81 (xE 214).1 ∈ xTs := xTs_of (x_t 1474 rfl) rfl
set_option maxRecDepth 30000 in
theorem lk_82 : Cond.methodLink "LastAskedLaw" 82 (xE 79).1 ∈ xTs := xTs_of (x_t 600 rfl) rfl
set_option maxRecDepth 30000 in
theorem lk_85 : Cond.methodLink "LastAskedLaw" 85 (xE 215).1 ∈ xTs := xTs_of (x_t 1478 rfl) rfl
set_option maxRecDepth 30000 in
theorem lk_86 : Cond.methodLink "LastAskedLaw" 86 (xE 80).1 ∈ xTs := xTs_of (x_t 604 rfl) rfl
set_option maxRecDepth 30000 in
theorem lk_89 : Cond.methodLink "LastAskedLaw" 89 (xE 216).1 ∈ xTs := xTs_of (x_t 1482 rfl) rfl
set_option maxRecDepth 30000 in
theorem lk_90 : Cond.methodLink "LastAskedLaw" 90 (xE 81).1 ∈ xTs := xTs_of (x_t 612 rfl) rfl
set_option maxRecDepth 30000 in
theorem lk_94 : Cond.methodLink "LastAskedLaw" 94 (xE 220).1 ∈ xTs := xTs_of (x_t 1489 rfl) rfl
set_option maxRecDepth 30000 in
theorem lk_95 : Cond.methodLink "LastAskedLaw" 95 (xE 82).1 ∈ xTs := xTs_of (x_t 633 rfl) rfl
set_option maxRecDepth 30000 in
theorem lk_99 : Cond.methodLink "LastAskedLaw" 99 (xE 221).1 ∈ xTs := xTs_of (x_t 1513 rfl) rfl
set_option maxRecDepth 30000 in
theorem lk_100 : Cond.methodLink "LastAskedLaw" 100 (xE 83).1 ∈ xTs := xTs_of (x_t 641 rfl) rfl
set_option maxRecDepth 30000 in
theorem lk_103 : Cond.methodLink "LastAskedLaw" 103 (xE 222).1 ∈ xTs := xTs_of (x_t 1517 rfl) rfl
set_option maxRecDepth 30000 in
theorem lk_104 : Cond.methodLink "LastAskedLaw" 104 (xE 84).1 ∈ xTs := xTs_of (x_t 645 rfl) rfl
set_option maxRecDepth 30000 in
theorem lk_108 : Cond.methodLink "LastAskedLaw" 108 (xE 223).1 ∈ xTs := xTs_of (x_t 1521 rfl) rfl
set_option maxRecDepth 30000 in
theorem lk_109 : Cond.methodLink "LastAskedLaw" 109 (xE 85).1 ∈ xTs := xTs_of (x_t 653 rfl) rfl
set_option maxRecDepth 30000 in
theorem lk_112 : Cond.methodLink "LastAskedLaw" 112 (xE 227).1 ∈ xTs := xTs_of (x_t 1525 rfl) rfl
set_option maxRecDepth 30000 in
theorem lk_113 : Cond.methodLink "LastAskedLaw" 113 (xE 86).1 ∈ xTs := xTs_of (x_t 682 rfl) rfl
set_option maxRecDepth 30000 in
theorem lk_116 : Cond.methodLink "LastAskedLaw" 116 (xE 228).1 ∈ xTs := xTs_of (x_t 1542 rfl) rfl
set_option maxRecDepth 30000 in
theorem lk_117 : Cond.methodLink "LastAskedLaw" 117 (xE 87).1 ∈ xTs := xTs_of (x_t 686 rfl) rfl
set_option maxRecDepth 30000 in
theorem lk_120 : Cond.methodLink "LastAskedLaw" 120 (xE 232).1 ∈ xTs := xTs_of (x_t 1546 rfl) rfl
set_option maxRecDepth 30000 in
theorem lk_121 : Cond.methodLink "LastAskedLaw" 121 (xE 88).1 ∈ xTs := xTs_of (x_t 713 rfl) rfl
set_option maxRecDepth 30000 in
theorem lk_124 : Cond.methodLink "LastAskedLaw" 124 (xE 233).1 ∈ xTs := xTs_of (x_t 1562 rfl) rfl
set_option maxRecDepth 30000 in
theorem lk_125 : Cond.methodLink "LastAskedLaw" 125 (xE 89).1 ∈ xTs := xTs_of (x_t 717 rfl) rfl
set_option maxRecDepth 30000 in
theorem lk_128 : Cond.methodLink "LastAskedLaw" 128 (xE 234).1 ∈ xTs := xTs_of (x_t 1566 rfl) rfl
set_option maxRecDepth 30000 in
theorem lk_129 : Cond.methodLink "LastAskedLaw" 129 (xE 90).1 ∈ xTs := xTs_of (x_t 721 rfl) rfl
set_option maxRecDepth 30000 in
theorem lk_132 : Cond.methodLink "LastAskedLaw" 132 (xE 235).1 ∈ xTs := xTs_of (x_t 1570 rfl) rfl
set_option maxRecDepth 30000 in
theorem lk_133 : Cond.methodLink "LastAskedLaw" 133 (xE 91).1 ∈ xTs := xTs_of (x_t 725 rfl) rfl
set_option maxRecDepth 30000 in
theorem lk_136 : Cond.methodLink "LastAskedLaw" 136 (xE 236).1 ∈ xTs := xTs_of (x_t 1574 rfl) rfl
set_option maxRecDepth 30000 in
theorem lk_137 : Cond.methodLink "LastAskedLaw" 137 (xE 92).1 ∈ xTs := xTs_of (x_t 729 rfl) rfl
set_option maxRecDepth 30000 in
theorem lk_140 : Cond.methodLink "LastAskedLaw" 140 (xE 241).1 ∈ xTs := xTs_of (x_t 1578 rfl) rfl
set_option maxRecDepth 30000 in
theorem lk_141 : Cond.methodLink "LastAskedLaw" 141 (xE 93).1 ∈ xTs := xTs_of (x_t 755 rfl) rfl
set_option maxRecDepth 30000 in
theorem lk_144 : Cond.methodLink "LastAskedLaw" 144 (xE 242).1 ∈ xTs := xTs_of (x_t 1598 rfl) rfl
set_option maxRecDepth 30000 in
theorem lk_145 : Cond.methodLink "LastAskedLaw" 145 (xE 94).1 ∈ xTs := xTs_of (x_t 764 rfl) rfl
set_option maxRecDepth 30000 in
theorem lk_148 : Cond.methodLink "LastAskedLaw" 148 (xE 243).1 ∈ xTs := xTs_of (x_t 1602 rfl) rfl
set_option maxRecDepth 30000 in
theorem lk_149 : Cond.methodLink "LastAskedLaw" 149 (xE 95).1 ∈ xTs := xTs_of (x_t 772 rfl) rfl
set_option maxRecDepth 30000 in
theorem lk_152 : Cond.methodLink "LastAskedLaw" 152 (xE 245).1 ∈ xTs := xTs_of (x_t 1606 rfl) rfl
set_option maxRecDepth 30000 in
theorem lk_153 : Cond.methodLink "LastAskedLaw" 153 (xE 96).1 ∈ xTs := xTs_of (x_t 788 rfl) rfl
set_option maxRecDepth 30000 in
theorem lk_156 : Cond.methodLink "LastAskedLaw" 156 (xE 246).1 ∈ xTs := xTs_of (x_t 1614 rfl) rfl
set_option maxRecDepth 30000 in
theorem lk_157 : Cond.methodLink "LastAskedLaw" 157 (xE 97).1 ∈ xTs := xTs_of (x_t 793 rfl) rfl
set_option maxRecDepth 30000 in
theorem lk_160 : Cond.methodLink "LastAskedLaw" 160 (xE 247).1 ∈ xTs := xTs_of (x_t 1618 rfl) rfl
set_option maxRecDepth 30000 in
theorem lk_161 : Cond.methodLink "LastAskedLaw" 161 (xE 98).1 ∈ xTs := xTs_of (x_t 798 rfl) rfl
set_option maxRecDepth 30000 in
theorem lk_165 : Cond.methodLink "LastAskedLaw" 165 (xE 251).1 ∈ xTs := xTs_of (x_t 1622 rfl) rfl
set_option maxRecDepth 30000 in
theorem lk_166 : Cond.methodLink "LastAskedLaw" 166 (xE 99).1 ∈ xTs := xTs_of (x_t 809 rfl) rfl
set_option maxRecDepth 30000 in
theorem lk_169 : Cond.methodLink "LastAskedLaw" 169 (xE 253).1 ∈ xTs := xTs_of (x_t 1640 rfl) rfl
set_option maxRecDepth 30000 in
theorem lk_170 : Cond.methodLink "LastAskedLaw" 170 (xE 100).1 ∈ xTs := xTs_of (x_t 816 rfl) rfl
set_option maxRecDepth 30000 in
theorem lk_173 : Cond.methodLink "LastAskedLaw" 173 (xE 254).1 ∈ xTs := xTs_of (x_t 1647 rfl) rfl
set_option maxRecDepth 30000 in
theorem lk_174 : Cond.methodLink "LastAskedLaw" 174 (xE 101).1 ∈ xTs := xTs_of (x_t 820 rfl) rfl
set_option maxRecDepth 30000 in
theorem lk_178 : Cond.methodLink "LastAskedLaw" 178 (xE 258).1 ∈ xTs := xTs_of (x_t 1651 rfl) rfl
set_option maxRecDepth 30000 in
theorem lk_179 : Cond.methodLink "LastAskedLaw" 179 (xE 102).1 ∈ xTs := xTs_of (x_t 847 rfl) rfl
set_option maxRecDepth 30000 in
theorem lk_182 : Cond.methodLink "LastAskedLaw" 182 (xE 259).1 ∈ xTs := xTs_of (x_t 1675 rfl) rfl
set_option maxRecDepth 30000 in
theorem lk_183 : Cond.methodLink "LastAskedLaw" 183 (xE 103).1 ∈ xTs := xTs_of (x_t 851 rfl) rfl
set_option maxRecDepth 30000 in
theorem lk_186 : Cond.methodLink "LastAskedLaw" 186 (xE 260).1 ∈ xTs := xTs_of (x_t 1679 rfl) rfl
set_option maxRecDepth 30000 in
theorem lk_187 : Cond.methodLink "LastAskedLaw" 187 (xE 104).1 ∈ xTs := xTs_of (x_t 855 rfl) rfl
set_option maxRecDepth 30000 in
theorem lk_190 : Cond.methodLink "LastAskedLaw" 190 (xE 263).1 ∈ xTs := xTs_of (x_t 1683 rfl) rfl
set_option maxRecDepth 30000 in
theorem lk_191 : Cond.methodLink "LastAskedLaw" 191 (xE 105).1 ∈ xTs := xTs_of (x_t 869 rfl) rfl
set_option maxRecDepth 30000 in
theorem lk_194 : Cond.methodLink "LastAskedLaw" 194 (xE 264).1 ∈ xTs := xTs_of (x_t 1695 rfl) rfl
set_option maxRecDepth 30000 in
theorem lk_195 : Cond.methodLink "LastAskedLaw" 195 (xE 106).1 ∈ xTs := xTs_of (x_t 873 rfl) rfl
set_option maxRecDepth 30000 in
theorem lk_198 : Cond.methodLink "LastAskedLaw" 198 (xE 265).1 ∈ xTs := xTs_of (x_t 1699 rfl) rfl
set_option maxRecDepth 30000 in
theorem lk_199 : Cond.methodLink "LastAskedLaw" 199 (xE 107).1 ∈ xTs := xTs_of (x_t 877 rfl) rfl
set_option maxRecDepth 30000 in
theorem lk_203 : Cond.methodLink "LastAskedLaw" 203 (xE 266).1 ∈ xTs := xTs_of (x_t 1703 rfl) rfl
set_option maxRecDepth 30000 in
theorem lk_204 : Cond.methodLink "LastAskedLaw" 204 (xE 108).1 ∈ xTs := xTs_of (x_t 881 rfl) rfl
set_option maxRecDepth 30000 in
theorem lk_208 : Cond.methodLink "LastAskedLaw" 208 (xE 267).1 ∈ xTs := xTs_of (x_t 1715 rfl) rfl
set_option maxRecDepth 30000 in
theorem lk_209 : Cond.methodLink "LastAskedLaw" 209 (xE 109).1 ∈ xTs := xTs_of (x_t 889 rfl) rfl
set_option maxRecDepth 30000 in
theorem lk_212 : Cond.methodLink "LastAskedLaw" 212 (xE 268).1 ∈ xTs := xTs_of (x_t 1719 rfl) rfl
set_option maxRecDepth 30000 in
theorem lk_213 : Cond.methodLink "LastAskedLaw" 213 (xE 110).1 ∈ xTs := xTs_of (x_t 897 rfl) rfl
set_option maxRecDepth 30000 in
theorem lk_216 : Cond.methodLink "LastAskedLaw" 216 (xE 269).1 ∈ xTs := xTs_of (x_t 1723 rfl) rfl
set_option maxRecDepth 30000 in
theorem lk_222 : Cond.methodLink "LastAskedLaw" 222 (xE 270).1 ∈ xTs := xTs_of (x_t 1727 rfl) rfl
set_option maxRecDepth 30000 in
theorem lk_223 : Cond.methodLink "LastAskedLaw" 223 (xE 150).1 ∈ xTs := xTs_of (x_t 1106 rfl) rfl
set_option maxRecDepth 30000 in
theorem lk_226 : Cond.methodLink "LastAskedLaw" 226 (xE 112).1 ∈ xTs := xTs_of (x_t 905 rfl) rfl
set_option maxRecDepth 30000 in
theorem lk_229 : Cond.methodLink "LastAskedLaw" 229 (xE 271).1 ∈ xTs := xTs_of (x_t 1731 rfl) rfl
set_option maxRecDepth 30000 in
theorem lk_230 : Cond.methodLink "LastAskedLaw" 230 (xE 113).1 ∈ xTs := xTs_of (x_t 915 rfl) rfl
set_option maxRecDepth 30000 in
theorem lk_233 : Cond.methodLink "LastAskedLaw" 233 (xE 272).1 ∈ xTs := xTs_of (x_t 1735 rfl) rfl
section QC
variable {p : Program} {l : Launch} {e : Env} {s : State} {m : MethodId} {below : List Frame} {meth : Method} {c : Code} {Q : State → Prop} {dd : va_G} {cy : Nat → ClassId} {z : Nat} {sa : UInt32 → Nat} {av : Nat → Nat} {b L : Nat} {xs : Nat → Int32} {j : Nat} {σ : xM}
theorem q_0 (C : GC p l s m c dd cy z sa av b L xs) (hW : Wd σ) (hO : gO σ) (hcap : mN σ + 12 ≤ 601024 ∧ mU σ + 98 ≤ 7293034) (hj : j + 5 < L) (kend : ∀ υ, gN σ υ → lW p l e s m below meth c Q dd cy z sa b [] (nI j) 1874 [] υ) : lW p l e s m below meth c Q dd cy z sa b [] (nI j) 256 [] σ := by
  obtain ⟨a, τ, υ, hF, hG, hN1, hN2, hW2⟩ := w64 hW (xs (j + 1)) (xs (j + 2)) (xs (j + 3)) (xs (j + 4)) (xs (j + 5))
  have r1 := e64 12 hF
  have r2 := e182 13 hG
  obtain ⟨m1, m2, a1, a2, hgN⟩ := g_pair hW hO r1 r2 hN1 hN2 hW2
  have c2 : mN υ ≤ 601024 ∧ mU υ ≤ 7293034 := by
    obtain ⟨-, -, x1, x2⟩ := hgN
    omega
  have c1 : mN τ ≤ 601024 ∧ mU τ ≤ 7293034 := by omega
  refine g_al1 C (ld0 24 rfl) ?_
  refine g_arg (k := 1) C (by omega) (by decide) (ld0 25 rfl) (ld0 26 rfl) (ld0 27 rfl) (ld0 28 rfl) (ld0 29 rfl) ?_
  refine g_arg (k := 2) C (by omega) (by decide) (ld1 0 rfl) (ld1 1 rfl) (ld1 2 rfl) (ld1 3 rfl) (ld1 4 rfl) ?_
  refine g_arg (k := 3) C (by omega) (by decide) (ld1 5 rfl) (ld1 6 rfl) (ld1 7 rfl) (ld1 8 rfl) (ld1 9 rfl) ?_
  refine g_arg (k := 4) C (by omega) (by decide) (ld1 10 rfl) (ld1 11 rfl) (ld1 12 rfl) (ld1 13 rfl) (ld1 14 rfl) ?_
  refine g_arg (k := 5) C (by omega) (by decide) (ld1 15 rfl) (ld1 16 rfl) (ld1 17 rfl) (ld1 18 rfl) (ld1 19 rfl) ?_
  refine g_vc (rn := 64) (a := 0) (o := 7) (as := [.int (xs (j + 1)), .int (xs (j + 2)), .int (xs (j + 3)), .int (xs (j + 4)), .int (xs (j + 5))]) (st := []) C (by decide) (by decide) m1 c1 (g_run (as := (.ref 0 :: [.int (xs (j + 1)), .int (xs (j + 2)), .int (xs (j + 3)), .int (xs (j + 4)), .int (xs (j + 5))])) (by decide) (Nat.le_of_ble_eq_true rfl) r1) ⟨rfl, by decide, rfl, by decide, rfl⟩ a1 lk_19 (Nat.le_of_ble_eq_true rfl) (ld1 20 rfl) ?_
  refine g_al2 C (ld1 21 rfl) ?_
  refine g_arg (k := 1) C (by omega) (by decide) (ld1 22 rfl) (ld1 23 rfl) (ld1 24 rfl) (ld1 25 rfl) (ld1 26 rfl) ?_
  refine g_arg (k := 2) C (by omega) (by decide) (ld1 27 rfl) (ld1 28 rfl) (ld1 29 rfl) (ld2 0 rfl) (ld2 1 rfl) ?_
  refine g_arg (k := 3) C (by omega) (by decide) (ld2 2 rfl) (ld2 3 rfl) (ld2 4 rfl) (ld2 5 rfl) (ld2 6 rfl) ?_
  refine g_arg (k := 4) C (by omega) (by decide) (ld2 7 rfl) (ld2 8 rfl) (ld2 9 rfl) (ld2 10 rfl) (ld2 11 rfl) ?_
  refine g_arg (k := 5) C (by omega) (by decide) (ld2 12 rfl) (ld2 13 rfl) (ld2 14 rfl) (ld2 15 rfl) (ld2 16 rfl) ?_
  refine g_vc (rn := 182) (a := 102) (o := 9) (as := [.int (xs (j + 1)), .int (xs (j + 2)), .int (xs (j + 3)), .int (xs (j + 4)), .int (xs (j + 5))]) (st := [.int a]) C (by decide) (by decide) m2 c2 (g_run (as := (.ref 102 :: [.int (xs (j + 1)), .int (xs (j + 2)), .int (xs (j + 3)), .int (xs (j + 4)), .int (xs (j + 5))])) (by decide) (Nat.le_of_ble_eq_true rfl) r2) ⟨rfl, by decide, rfl, by decide, rfl⟩ a2 lk_23 (Nat.le_of_ble_eq_true rfl) (ld2 17 rfl) ?_
  refine g_eqi C (ld2 18 rfl) (by decide) ?_
  exact kend υ hgN
end QC
