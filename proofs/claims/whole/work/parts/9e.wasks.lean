/-! THE WORLD: the calls that ask -/
theorem n4_0 : (0 : Int32) ≠ 4 := by decide
theorem n4_1 : (1 : Int32) ≠ 4 := by decide
theorem n4_2 : (2 : Int32) ≠ 4 := by decide
theorem n4_3 : (3 : Int32) ≠ 4 := by decide
theorem n4_5 : (5 : Int32) ≠ 4 := by decide
theorem n4_6 : (6 : Int32) ≠ 4 := by decide
theorem lvOr4 (n : Nat) (s : Sta) (p : Int32) : lvOr n s p ≠ 4 := by
  unfold lvOr
  repeat' split
  all_goals first | exact n4_0 | exact n4_1 | exact n4_2 | exact n4_3 | exact n4_5 | exact n4_6
theorem shOr4 (n : Nat) (p : Int32) : shOr n p ≠ 4 := by
  unfold shOr
  repeat' split
  all_goals first | exact n4_0 | exact n4_1 | exact n4_2 | exact n4_3 | exact n4_5 | exact n4_6
theorem drOr4 (n : Nat) (x y : Int32) : drOr n x y ≠ 4 := by
  unfold drOr
  repeat' split
  all_goals first | exact n4_0 | exact n4_1 | exact n4_2 | exact n4_3 | exact n4_5 | exact n4_6
theorem skOr4 (n : Nat) (s : Sta) (p : Int32) (b : Bool) : skOr n s p b ≠ 4 := by
  unfold skOr
  repeat' split
  all_goals (first | exact n4_0 | exact n4_1 | exact n4_2 | exact n4_3 | exact n4_5 | exact n4_6 | exact lvOr4 _ _ _)
section WLD
variable {σ : xM}
theorem w68 (h : Wd σ) (p w : Int32) : Two (f68 0 p w) (f201 102 p w) σ := by
  obtain ⟨C, s, ps, na, im, ni, n, f, r, ft, wh, hC, hM, hO⟩ := h
  refine Q_two (a := aPer C s p w) hC hM hO ?_ (fun hq => c68 hq p w) (fun τ hq => m201 hq p w)
  unfold aPer
  repeat' split
  all_goals (first | exact n4_0 | exact n4_1 | exact n4_2 | exact n4_3 | exact n4_5 | exact n4_6 | exact lvOr4 _ _ _ | exact shOr4 _ _ | exact drOr4 _ _ _ | exact skOr4 _ _ _ _)
theorem w69 (h : Wd σ) (p q : Int32) : Two (f69 0 p q) (f202 102 p q) σ := by
  obtain ⟨C, s, ps, na, im, ni, n, f, r, ft, wh, hC, hM, hO⟩ := h
  refine Q_two (a := aReg (pe C) s p q) hC hM hO ?_ (fun hq => c69 hq p q) (fun τ hq => m202 hq p q)
  unfold aReg
  repeat' split
  all_goals (first | exact n4_0 | exact n4_1 | exact n4_2 | exact n4_3 | exact n4_5 | exact n4_6 | exact lvOr4 _ _ _ | exact shOr4 _ _ | exact drOr4 _ _ _ | exact skOr4 _ _ _ _)
theorem w70 (h : Wd σ) (p : Int32) : Two (f70 0 p) (f204 102 p) σ := by
  obtain ⟨C, s, ps, na, im, ni, n, f, r, ft, wh, hC, hM, hO⟩ := h
  refine Q_two (a := aHeir (pe C) s p) hC hM hO ?_ (fun hq => c70 hq p) (fun τ hq => m204 hq p)
  unfold aHeir
  repeat' split
  all_goals (first | exact n4_0 | exact n4_1 | exact n4_2 | exact n4_3 | exact n4_5 | exact n4_6 | exact lvOr4 _ _ _ | exact shOr4 _ _ | exact drOr4 _ _ _ | exact skOr4 _ _ _ _)
theorem w71 (h : Wd σ) (p : Int32) : Two (f71 0 p) (f206 102 p) σ := by
  obtain ⟨C, s, ps, na, im, ni, n, f, r, ft, wh, hC, hM, hO⟩ := h
  refine Q_two (a := aHto (pe C) s p) hC hM hO ?_ (fun hq => c71 hq p) (fun τ hq => m206 hq p)
  unfold aHto
  repeat' split
  all_goals (first | exact n4_0 | exact n4_1 | exact n4_2 | exact n4_3 | exact n4_5 | exact n4_6 | exact lvOr4 _ _ _ | exact shOr4 _ _ | exact drOr4 _ _ _ | exact skOr4 _ _ _ _)
theorem w72 (h : Wd σ) (p : Int32) : Two (f72 0 p) (f207 102 p) σ := by
  obtain ⟨C, s, ps, na, im, ni, n, f, r, ft, wh, hC, hM, hO⟩ := h
  refine Q_two (a := aHop (pe C) s p) hC hM hO ?_ (fun hq => c72 hq p) (fun τ hq => m207 hq p)
  unfold aHop
  repeat' split
  all_goals (first | exact n4_0 | exact n4_1 | exact n4_2 | exact n4_3 | exact n4_5 | exact n4_6 | exact lvOr4 _ _ _ | exact shOr4 _ _ | exact drOr4 _ _ _ | exact skOr4 _ _ _ _)
theorem w73 (h : Wd σ) : Two (f73 0) (f208 102) σ := by
  obtain ⟨C, s, ps, na, im, ni, n, f, r, ft, wh, hC, hM, hO⟩ := h
  refine Q_two (a := aCat (pe C) s) hC hM hO ?_ (fun hq => c73 hq) (fun τ hq => m208 hq)
  unfold aCat
  repeat' split
  all_goals (first | exact n4_0 | exact n4_1 | exact n4_2 | exact n4_3 | exact n4_5 | exact n4_6 | exact lvOr4 _ _ _ | exact shOr4 _ _ | exact drOr4 _ _ _ | exact skOr4 _ _ _ _)
theorem w74 (h : Wd σ) : Two (f74 0) (f209 102) σ := by
  obtain ⟨C, s, ps, na, im, ni, n, f, r, ft, wh, hC, hM, hO⟩ := h
  refine Q_two (a := aRic (pe C) s) hC hM hO ?_ (fun hq => c74 hq) (fun τ hq => m209 hq)
  unfold aRic
  repeat' split
  all_goals (first | exact n4_0 | exact n4_1 | exact n4_2 | exact n4_3 | exact n4_5 | exact n4_6 | exact lvOr4 _ _ _ | exact shOr4 _ _ | exact drOr4 _ _ _ | exact skOr4 _ _ _ _)
theorem w75 (h : Wd σ) (p x : Int32) : Two (f75 0 p x) (f211 102 p x) σ := by
  obtain ⟨C, s, ps, na, im, ni, n, f, r, ft, wh, hC, hM, hO⟩ := h
  refine Q_two (a := aGo (pe C) s p x) hC hM hO ?_ (fun hq => c75 hq p x) (fun τ hq => m211 hq p x)
  unfold aGo
  repeat' split
  all_goals (first | exact n4_0 | exact n4_1 | exact n4_2 | exact n4_3 | exact n4_5 | exact n4_6 | exact lvOr4 _ _ _ | exact shOr4 _ _ | exact drOr4 _ _ _ | exact skOr4 _ _ _ _)
theorem w76 (h : Wd σ) (p x : Int32) : Two (f76 0 p x) (f212 102 p x) σ := by
  obtain ⟨C, s, ps, na, im, ni, n, f, r, ft, wh, hC, hM, hO⟩ := h
  refine Q_two (a := aHt (pe C) s p x) hC hM hO ?_ (fun hq => c76 hq p x) (fun τ hq => m212 hq p x)
  unfold aHt
  repeat' split
  all_goals (first | exact n4_0 | exact n4_1 | exact n4_2 | exact n4_3 | exact n4_5 | exact n4_6 | exact lvOr4 _ _ _ | exact shOr4 _ _ | exact drOr4 _ _ _ | exact skOr4 _ _ _ _)
theorem w77 (h : Wd σ) (x : Int32) : Two (f77 0 x) (f213 102 x) σ := by
  obtain ⟨C, s, ps, na, im, ni, n, f, r, ft, wh, hC, hM, hO⟩ := h
  refine Q_two (a := aCt (pe C) s x) hC hM hO ?_ (fun hq => c77 hq x) (fun τ hq => m213 hq x)
  unfold aCt
  repeat' split
  all_goals (first | exact n4_0 | exact n4_1 | exact n4_2 | exact n4_3 | exact n4_5 | exact n4_6 | exact lvOr4 _ _ _ | exact shOr4 _ _ | exact drOr4 _ _ _ | exact skOr4 _ _ _ _)
theorem w78 (h : Wd σ) : Two (f78 0) (f214 102) σ := by
  obtain ⟨C, s, ps, na, im, ni, n, f, r, ft, wh, hC, hM, hO⟩ := h
  refine Q_two (a := aRou (pe C) s) hC hM hO ?_ (fun hq => c78 hq) (fun τ hq => m214 hq)
  unfold aRou
  repeat' split
  all_goals (first | exact n4_0 | exact n4_1 | exact n4_2 | exact n4_3 | exact n4_5 | exact n4_6 | exact lvOr4 _ _ _ | exact shOr4 _ _ | exact drOr4 _ _ _ | exact skOr4 _ _ _ _)
theorem w79 (h : Wd σ) : Two (f79 0) (f215 102) σ := by
  obtain ⟨C, s, ps, na, im, ni, n, f, r, ft, wh, hC, hM, hO⟩ := h
  refine Q_two (a := aWor (pe C) s) hC hM hO ?_ (fun hq => c79 hq) (fun τ hq => m215 hq)
  unfold aWor
  repeat' split
  all_goals (first | exact n4_0 | exact n4_1 | exact n4_2 | exact n4_3 | exact n4_5 | exact n4_6 | exact lvOr4 _ _ _ | exact shOr4 _ _ | exact drOr4 _ _ _ | exact skOr4 _ _ _ _)
theorem w80 (h : Wd σ) (p q : Int32) : Two (f80 0 p q) (f216 102 p q) σ := by
  obtain ⟨C, s, ps, na, im, ni, n, f, r, ft, wh, hC, hM, hO⟩ := h
  refine Q_two (a := aPlo (pe C) s p q) hC hM hO ?_ (fun hq => c80 hq p q) (fun τ hq => m216 hq p q)
  unfold aPlo
  repeat' split
  all_goals (first | exact n4_0 | exact n4_1 | exact n4_2 | exact n4_3 | exact n4_5 | exact n4_6 | exact lvOr4 _ _ _ | exact shOr4 _ _ | exact drOr4 _ _ _ | exact skOr4 _ _ _ _)
theorem w81 (h : Wd σ) (p b : Int32) : Two (f81 0 p b) (f220 102 p b) σ := by
  obtain ⟨C, s, ps, na, im, ni, n, f, r, ft, wh, hC, hM, hO⟩ := h
  refine Q_two (a := aMea C s p b) hC hM hO ?_ (fun hq => c81 hq p b) (fun τ hq => m220 hq p b)
  unfold aMea
  repeat' split
  all_goals (first | exact n4_0 | exact n4_1 | exact n4_2 | exact n4_3 | exact n4_5 | exact n4_6 | exact lvOr4 _ _ _ | exact shOr4 _ _ | exact drOr4 _ _ _ | exact skOr4 _ _ _ _)
theorem w82 (h : Wd σ) (p x b : Int32) : Two (f82 0 p x b) (f221 102 p x b) σ := by
  obtain ⟨C, s, ps, na, im, ni, n, f, r, ft, wh, hC, hM, hO⟩ := h
  refine Q_two (a := aOdd C s p x b) hC hM hO ?_ (fun hq => c82 hq p x b) (fun τ hq => m221 hq p x b)
  unfold aOdd
  repeat' split
  all_goals (first | exact n4_0 | exact n4_1 | exact n4_2 | exact n4_3 | exact n4_5 | exact n4_6 | exact lvOr4 _ _ _ | exact shOr4 _ _ | exact drOr4 _ _ _ | exact skOr4 _ _ _ _)
theorem w83 (h : Wd σ) (p q b : Int32) : Two (f83 0 p q b) (f222 102 p q b) σ := by
  obtain ⟨C, s, ps, na, im, ni, n, f, r, ft, wh, hC, hM, hO⟩ := h
  refine Q_two (a := aPas C s p q b) hC hM hO ?_ (fun hq => c83 hq p q b) (fun τ hq => m222 hq p q b)
  unfold aPas
  repeat' split
  all_goals (first | exact n4_0 | exact n4_1 | exact n4_2 | exact n4_3 | exact n4_5 | exact n4_6 | exact lvOr4 _ _ _ | exact shOr4 _ _ | exact drOr4 _ _ _ | exact skOr4 _ _ _ _)
theorem w84 (h : Wd σ) (b : Int32) : Two (f84 0 b) (f223 102 b) σ := by
  obtain ⟨C, s, ps, na, im, ni, n, f, r, ft, wh, hC, hM, hO⟩ := h
  refine Q_two (a := aCme C s b) hC hM hO ?_ (fun hq => c84 hq b) (fun τ hq => m223 hq b)
  unfold aCme
  repeat' split
  all_goals (first | exact n4_0 | exact n4_1 | exact n4_2 | exact n4_3 | exact n4_5 | exact n4_6 | exact lvOr4 _ _ _ | exact shOr4 _ _ | exact drOr4 _ _ _ | exact skOr4 _ _ _ _)
theorem w85 (h : Wd σ) (p x : Int32) : Two (f85 0 p x) (f227 102 p x) σ := by
  obtain ⟨C, s, ps, na, im, ni, n, f, r, ft, wh, hC, hM, hO⟩ := h
  refine Q_two (a := aBes C s p x) hC hM hO ?_ (fun hq => c85 hq hO.2.2.1 p x) (fun τ hq => m227 hq hO.2.2.1 p x)
  unfold aBes
  repeat' split
  all_goals (first | exact n4_0 | exact n4_1 | exact n4_2 | exact n4_3 | exact n4_5 | exact n4_6 | exact lvOr4 _ _ _ | exact shOr4 _ _ | exact drOr4 _ _ _ | exact skOr4 _ _ _ _)
theorem w86 (h : Wd σ) (p x b : Int32) : Two (f86 0 p x b) (f228 102 p x b) σ := by
  obtain ⟨C, s, ps, na, im, ni, n, f, r, ft, wh, hC, hM, hO⟩ := h
  refine Q_two (a := aBem C s p x b) hC hM hO ?_ (fun hq => c86 hq hO.2.2.1 p x b) (fun τ hq => m228 hq hO.2.2.1 p x b)
  unfold aBem
  repeat' split
  all_goals (first | exact n4_0 | exact n4_1 | exact n4_2 | exact n4_3 | exact n4_5 | exact n4_6 | exact lvOr4 _ _ _ | exact shOr4 _ _ | exact drOr4 _ _ _ | exact skOr4 _ _ _ _)
theorem w87 (h : Wd σ) (p x : Int32) : Two (f87 0 p x) (f232 102 p x) σ := by
  obtain ⟨C, s, ps, na, im, ni, n, f, r, ft, wh, hC, hM, hO⟩ := h
  refine Q_two (a := aTou C s p x) hC hM hO ?_ (fun hq => c87 hq hO.2.2.1 p x) (fun τ hq => m232 hq hO.2.2.1 p x)
  unfold aTou
  repeat' split
  all_goals (first | exact n4_0 | exact n4_1 | exact n4_2 | exact n4_3 | exact n4_5 | exact n4_6 | exact lvOr4 _ _ _ | exact shOr4 _ _ | exact drOr4 _ _ _ | exact skOr4 _ _ _ _)
theorem w88 (h : Wd σ) (p x : Int32) : Two (f88 0 p x) (f233 102 p x) σ := by
  obtain ⟨C, s, ps, na, im, ni, n, f, r, ft, wh, hC, hM, hO⟩ := h
  refine Q_two (a := aToh C s p x) hC hM hO ?_ (fun hq => c88 hq hO.2.2.1 p x) (fun τ hq => m233 hq hO.2.2.1 p x)
  unfold aToh
  repeat' split
  all_goals (first | exact n4_0 | exact n4_1 | exact n4_2 | exact n4_3 | exact n4_5 | exact n4_6 | exact lvOr4 _ _ _ | exact shOr4 _ _ | exact drOr4 _ _ _ | exact skOr4 _ _ _ _)
theorem w89 (h : Wd σ) (p q : Int32) : Two (f89 0 p q) (f234 102 p q) σ := by
  obtain ⟨C, s, ps, na, im, ni, n, f, r, ft, wh, hC, hM, hO⟩ := h
  refine Q_two (a := aApa C p q) hC hM hO ?_ (fun hq => c89 hq p q) (fun τ hq => m234 hq p q)
  unfold aApa
  repeat' split
  all_goals (first | exact n4_0 | exact n4_1 | exact n4_2 | exact n4_3 | exact n4_5 | exact n4_6 | exact lvOr4 _ _ _ | exact shOr4 _ _ | exact drOr4 _ _ _ | exact skOr4 _ _ _ _)
theorem w90 (h : Wd σ) (p : Int32) : Two (f90 0 p) (f235 102 p) σ := by
  obtain ⟨C, s, ps, na, im, ni, n, f, r, ft, wh, hC, hM, hO⟩ := h
  refine Q_two (a := aToa C s p) hC hM hO ?_ (fun hq => c90 hq p) (fun τ hq => m235 hq p)
  unfold aToa
  repeat' split
  all_goals (first | exact n4_0 | exact n4_1 | exact n4_2 | exact n4_3 | exact n4_5 | exact n4_6 | exact lvOr4 _ _ _ | exact shOr4 _ _ | exact drOr4 _ _ _ | exact skOr4 _ _ _ _)
theorem w91 (h : Wd σ) (p q : Int32) : Two (f91 0 p q) (f236 102 p q) σ := by
  obtain ⟨C, s, ps, na, im, ni, n, f, r, ft, wh, hC, hM, hO⟩ := h
  refine Q_two (a := aRiv (pe C) s p q) hC hM hO ?_ (fun hq => c91 hq p q) (fun τ hq => m236 hq p q)
  unfold aRiv
  repeat' split
  all_goals (first | exact n4_0 | exact n4_1 | exact n4_2 | exact n4_3 | exact n4_5 | exact n4_6 | exact lvOr4 _ _ _ | exact shOr4 _ _ | exact drOr4 _ _ _ | exact skOr4 _ _ _ _)
theorem w92 (h : Wd σ) : Two (f92 0) (f241 102) σ := by
  obtain ⟨C, s, ps, na, im, ni, n, f, r, ft, wh, hC, hM, hO⟩ := h
  refine Q_two (a := aFit C) hC hM hO ?_ (fun hq => c92 hq) (fun τ hq => m241 hq hO.1)
  unfold aFit
  repeat' split
  all_goals (first | exact n4_0 | exact n4_1 | exact n4_2 | exact n4_3 | exact n4_5 | exact n4_6 | exact lvOr4 _ _ _ | exact shOr4 _ _ | exact drOr4 _ _ _ | exact skOr4 _ _ _ _)
theorem w93 (h : Wd σ) (i k : Int32) : Two (f93 0 i k) (f242 102 i k) σ := by
  obtain ⟨C, s, ps, na, im, ni, n, f, r, ft, wh, hC, hM, hO⟩ := h
  refine Q_two (a := aFat C i k) hC hM hO ?_ (fun hq => c93 hq i k) (fun τ hq => m242 hq hO.1 i k)
  unfold aFat
  repeat' split
  all_goals (first | exact n4_0 | exact n4_1 | exact n4_2 | exact n4_3 | exact n4_5 | exact n4_6 | exact lvOr4 _ _ _ | exact shOr4 _ _ | exact drOr4 _ _ _ | exact skOr4 _ _ _ _)
theorem w94 (h : Wd σ) (p q : Int32) : Two (f94 0 p q) (f243 102 p q) σ := by
  obtain ⟨C, s, ps, na, im, ni, n, f, r, ft, wh, hC, hM, hO⟩ := h
  refine Q_two (a := aHby C p q) hC hM hO ?_ (fun hq => c94 hq p q) (fun τ hq => m243 hq hO.1 p q)
  unfold aHby
  repeat' split
  all_goals (first | exact n4_0 | exact n4_1 | exact n4_2 | exact n4_3 | exact n4_5 | exact n4_6 | exact lvOr4 _ _ _ | exact shOr4 _ _ | exact drOr4 _ _ _ | exact skOr4 _ _ _ _)
theorem w95 (h : Wd σ) : Two (f95 0) (f245 102) σ := by
  obtain ⟨C, s, ps, na, im, ni, n, f, r, ft, wh, hC, hM, hO⟩ := h
  refine Q_two (a := aLok C) hC hM hO ?_ (fun hq => c95 hq) (fun τ hq => m245 hq hO.1)
  unfold aLok
  repeat' split
  all_goals (first | exact n4_0 | exact n4_1 | exact n4_2 | exact n4_3 | exact n4_5 | exact n4_6 | exact lvOr4 _ _ _ | exact shOr4 _ _ | exact drOr4 _ _ _ | exact skOr4 _ _ _ _)
theorem w96 (h : Wd σ) : Two (f96 0) (f246 102) σ := by
  obtain ⟨C, s, ps, na, im, ni, n, f, r, ft, wh, hC, hM, hO⟩ := h
  refine Q_two (a := aLol C) hC hM hO ?_ (fun hq => c96 hq) (fun τ hq => m246 hq hO.1)
  unfold aLol
  repeat' split
  all_goals (first | exact n4_0 | exact n4_1 | exact n4_2 | exact n4_3 | exact n4_5 | exact n4_6 | exact lvOr4 _ _ _ | exact shOr4 _ _ | exact drOr4 _ _ _ | exact skOr4 _ _ _ _)
theorem w97 (h : Wd σ) : Two (f97 0) (f247 102) σ := by
  obtain ⟨C, s, ps, na, im, ni, n, f, r, ft, wh, hC, hM, hO⟩ := h
  refine Q_two (a := aJud C) hC hM hO ?_ (fun hq => c97 hq) (fun τ hq => m247 hq)
  unfold aJud
  repeat' split
  all_goals (first | exact n4_0 | exact n4_1 | exact n4_2 | exact n4_3 | exact n4_5 | exact n4_6 | exact lvOr4 _ _ _ | exact shOr4 _ _ | exact drOr4 _ _ _ | exact skOr4 _ _ _ _)
theorem w98 (h : Wd σ) (x g a o : Int32) : Two (f98 0 x g a o) (f251 102 x g a o) σ := by
  obtain ⟨C, s, ps, na, im, ni, n, f, r, ft, wh, hC, hM, hO⟩ := h
  refine Q_two (a := aBeg (pe C) x g a o) hC hM hO ?_ (fun hq => c98 hq x g a o) (fun τ hq => m251 hq x g a o)
  unfold aBeg
  repeat' split
  all_goals (first | exact n4_0 | exact n4_1 | exact n4_2 | exact n4_3 | exact n4_5 | exact n4_6 | exact lvOr4 _ _ _ | exact shOr4 _ _ | exact drOr4 _ _ _ | exact skOr4 _ _ _ _)
theorem w99 (h : Wd σ) (x : Int32) : Two (f99 0 x) (f253 102 x) σ := by
  obtain ⟨C, s, ps, na, im, ni, n, f, r, ft, wh, hC, hM, hO⟩ := h
  refine Q_two (a := aRts (pe C) x) hC hM hO ?_ (fun hq => c99 hq x) (fun τ hq => m253 hq x)
  unfold aRts
  repeat' split
  all_goals (first | exact n4_0 | exact n4_1 | exact n4_2 | exact n4_3 | exact n4_5 | exact n4_6 | exact lvOr4 _ _ _ | exact shOr4 _ _ | exact drOr4 _ _ _ | exact skOr4 _ _ _ _)
theorem w100 (h : Wd σ) (x : Int32) : Two (f100 0 x) (f254 102 x) σ := by
  obtain ⟨C, s, ps, na, im, ni, n, f, r, ft, wh, hC, hM, hO⟩ := h
  refine Q_two (a := aRst (pe C) x) hC hM hO ?_ (fun hq => c100 hq x) (fun τ hq => m254 hq x)
  unfold aRst
  repeat' split
  all_goals (first | exact n4_0 | exact n4_1 | exact n4_2 | exact n4_3 | exact n4_5 | exact n4_6 | exact lvOr4 _ _ _ | exact shOr4 _ _ | exact drOr4 _ _ _ | exact skOr4 _ _ _ _)
theorem w101 (h : Wd σ) (p x y : Int32) : Two (f101 0 p x y) (f258 102 p x y) σ := by
  obtain ⟨C, s, ps, na, im, ni, n, f, r, ft, wh, hC, hM, hO⟩ := h
  refine Q_two (a := aNig C s p x y) hC hM hO ?_ (fun hq => c101 hq p x y) (fun τ hq => m258 hq p x y)
  unfold aNig
  repeat' split
  all_goals (first | exact n4_0 | exact n4_1 | exact n4_2 | exact n4_3 | exact n4_5 | exact n4_6 | exact lvOr4 _ _ _ | exact shOr4 _ _ | exact drOr4 _ _ _ | exact skOr4 _ _ _ _)
theorem w102 (h : Wd σ) (x y : Int32) : Two (f102 0 x y) (f259 102 x y) σ := by
  obtain ⟨C, s, ps, na, im, ni, n, f, r, ft, wh, hC, hM, hO⟩ := h
  refine Q_two (a := aLiv C s x y) hC hM hO ?_ (fun hq => c102 hq x y) (fun τ hq => m259 hq x y)
  unfold aLiv
  repeat' split
  all_goals (first | exact n4_0 | exact n4_1 | exact n4_2 | exact n4_3 | exact n4_5 | exact n4_6 | exact lvOr4 _ _ _ | exact shOr4 _ _ | exact drOr4 _ _ _ | exact skOr4 _ _ _ _)
theorem w103 (h : Wd σ) (x y : Int32) : Two (f103 0 x y) (f260 102 x y) σ := by
  obtain ⟨C, s, ps, na, im, ni, n, f, r, ft, wh, hC, hM, hO⟩ := h
  refine Q_two (a := aFir C s x y) hC hM hO ?_ (fun hq => c103 hq x y) (fun τ hq => m260 hq x y)
  unfold aFir
  repeat' split
  all_goals (first | exact n4_0 | exact n4_1 | exact n4_2 | exact n4_3 | exact n4_5 | exact n4_6 | exact lvOr4 _ _ _ | exact shOr4 _ _ | exact drOr4 _ _ _ | exact skOr4 _ _ _ _)
end WLD
