/-! the linked code is the class files' code -/
def xokL : List xMe → List (List xCe) → Bool
  | [], [] => true
  | m :: ms, c :: r => c.all (xokE m) && xokL ms r
  | _, _ => false
theorem xokL_app : ∀ (a : List xMe) (b : List (List xCe)) (a' : List xMe) (b' : List (List xCe)), xokL a b = true → xokL a' b' = true → xokL (a ++ a') (b ++ b') = true
  | [], [], a', b', _, h => h
  | m :: ms, c :: r, a', b', h, h' => by
    simp only [xokL, Bool.and_eq_true, List.cons_append] at h ⊢
    exact ⟨h.1, xokL_app ms r a' b' h.2 h'⟩
  | [], _ :: _, _, _, h, _ => by simp [xokL] at h
  | _ :: _, [], _, _, h, _ => by simp [xokL] at h
theorem xokL_at : ∀ (ms : List xMe) (L : List (List xCe)) (i : Nat) (c : List xCe), xokL ms L = true → L[i]? = some c → ∃ m, ms[i]? = some m ∧ c.all (xokE m) = true
  | [], [], i, c, _, h => by simp at h
  | m :: ms, x :: r, 0, c, h1, h => by
    simp only [xokL, Bool.and_eq_true] at h1
    simp at h
    subst h
    exact ⟨m, rfl, h1.1⟩
  | m :: ms, x :: r, i + 1, c, h1, h => by
    simp only [xokL, Bool.and_eq_true] at h1
    obtain ⟨m', h2, h3⟩ := xokL_at ms r i c h1.2 (by simpa using h)
    exact ⟨m', by simpa using h2, h3⟩
  | [], _ :: _, _, _, h, _ => by simp [xokL] at h
  | _ :: _, [], _, _, h, _ => by simp [xokL] at h
set_option maxRecDepth 100000 in
set_option maxHeartbeats 4000000 in
theorem x_chk0 : xokL xMs_0 xcs_0 = true := by decide +kernel
set_option maxRecDepth 100000 in
set_option maxHeartbeats 4000000 in
theorem x_chk1 : xokL xMs_1 xcs_1 = true := by decide +kernel
set_option maxRecDepth 100000 in
set_option maxHeartbeats 4000000 in
theorem x_chk2 : xokL xMs_2 xcs_2 = true := by decide +kernel
set_option maxRecDepth 100000 in
set_option maxHeartbeats 4000000 in
theorem x_chk3 : xokL xMs_3 xcs_3 = true := by decide +kernel
set_option maxRecDepth 100000 in
set_option maxHeartbeats 4000000 in
theorem x_chk4 : xokL xMs_4 xcs_4 = true := by decide +kernel
set_option maxRecDepth 100000 in
set_option maxHeartbeats 4000000 in
theorem x_chk5 : xokL xMs_5 xcs_5 = true := by decide +kernel
set_option maxRecDepth 100000 in
set_option maxHeartbeats 4000000 in
theorem x_chk6 : xokL xMs_6 xcs_6 = true := by decide +kernel
theorem x_chk : xokL xMs xcs = true := xokL_app _ _ _ _ x_chk0 (xokL_app _ _ _ _ x_chk1 (xokL_app _ _ _ _ x_chk2 (xokL_app _ _ _ _ x_chk3 (xokL_app _ _ _ _ x_chk4 (xokL_app _ _ _ _ x_chk5 (x_chk6))))))
theorem xfind_mem : ∀ (L : List xCe) (pc : Nat) (e : xCe), xfind L pc = some e → e ∈ L ∧ e.1 = pc
  | [], _, _, h => by cases h
  | x :: r, pc, e, h => by
    unfold xfind at h
    cases hb : Nat.beq x.1 pc with
    | true =>
      rw [hb] at h
      cases h
      exact ⟨List.mem_cons_self, Nat.eq_of_beq_eq_true hb⟩
    | false =>
      rw [hb] at h
      have := xfind_mem r pc e h
      exact ⟨List.mem_cons_of_mem _ this.1, this.2⟩
theorem x_code {k pc : Nat} {e : xCe} (h : xcode k pc = some e) : xokE (xE k) e = true ∧ e.1 = pc ∧ k < 274 := by
  obtain ⟨h1, h2⟩ := xfind_mem _ _ _ h
  have hk : xcs[k]? = some (xcs.getD k []) := by
    cases hc : xcs[k]? with
    | none => rw [List.getD_eq_getElem?_getD, hc] at h1; simp at h1
    | some c => rw [List.getD_eq_getElem?_getD, hc]; rfl
  obtain ⟨m, hm, hall⟩ := xokL_at xMs xcs k _ x_chk hk
  have hE : xE k = m := by unfold xE; rw [List.getD_eq_getElem?_getD, hm]; rfl
  refine ⟨?_, h2, ?_⟩
  · rw [hE]
    exact List.all_eq_true.mp hall e h1
  · have := (List.getElem?_eq_some_iff.mp hm).1
    rwa [show xMs.length = 274 by decide +kernel] at this
