/-! packed: the prims' contract -/
theorem jd_p_0 : decode (xE 164).2.1 0 = .ok (.lconst 0, 1) := by decide +kernel
theorem jd_p_1 : decode (xE 164).2.1 1 = .ok (.lstore_n 1, 1) := by decide +kernel
theorem jd_p_2 : decode (xE 164).2.1 2 = .ok (.iconst 0, 1) := by decide +kernel
theorem jd_p_3 : decode (xE 164).2.1 3 = .ok (.istore_n 3, 1) := by decide +kernel
theorem jd_p_4 : decode (xE 164).2.1 4 = .ok (.iload_n 3, 1) := by decide +kernel
theorem jd_p_5 : decode (xE 164).2.1 5 = .ok (.aload_n 0, 1) := by decide +kernel
theorem jd_p_6 : decode (xE 164).2.1 6 = .ok (.invokevirtual 71, 3) := by decide +kernel
theorem jd_p_9 : decode (xE 164).2.1 9 = .ok (.if_icmp .ge 27, 3) := by decide +kernel
theorem jd_p_12 : decode (xE 164).2.1 12 = .ok (.ldc2_w 77, 3) := by decide +kernel
theorem jd_p_15 : decode (xE 164).2.1 15 = .ok (.lload_n 1, 1) := by decide +kernel
theorem jd_p_16 : decode (xE 164).2.1 16 = .ok (.lmul, 1) := by decide +kernel
theorem jd_p_17 : decode (xE 164).2.1 17 = .ok (.aload_n 0, 1) := by decide +kernel
theorem jd_p_18 : decode (xE 164).2.1 18 = .ok (.iload_n 3, 1) := by decide +kernel
theorem jd_p_19 : decode (xE 164).2.1 19 = .ok (.invokevirtual 79, 3) := by decide +kernel
theorem jd_p_22 : decode (xE 164).2.1 22 = .ok (.bipush 97, 2) := by decide +kernel
theorem jd_p_24 : decode (xE 164).2.1 24 = .ok (.isub, 1) := by decide +kernel
theorem jd_p_25 : decode (xE 164).2.1 25 = .ok (.iconst 1, 1) := by decide +kernel
theorem jd_p_26 : decode (xE 164).2.1 26 = .ok (.iadd, 1) := by decide +kernel
theorem jd_p_27 : decode (xE 164).2.1 27 = .ok (.i2l, 1) := by decide +kernel
theorem jd_p_28 : decode (xE 164).2.1 28 = .ok (.ladd, 1) := by decide +kernel
theorem jd_p_29 : decode (xE 164).2.1 29 = .ok (.lstore_n 1, 1) := by decide +kernel
theorem jd_p_30 : decode (xE 164).2.1 30 = .ok (.iinc 3 1, 3) := by decide +kernel
theorem jd_p_33 : decode (xE 164).2.1 33 = .ok (.goto (-29), 3) := by decide +kernel
theorem jd_p_36 : decode (xE 164).2.1 36 = .ok (.lload_n 1, 1) := by decide +kernel
theorem jd_p_37 : decode (xE 164).2.1 37 = .ok (.lreturn, 1) := by decide +kernel
set_option maxRecDepth 30000 in
theorem jw_77 : Cond.constantLong "LastAskedModel" 77 32 ∈ xTs := xTs_of (x_t 1203 rfl) rfl
/-- the number of the text's first k letters -/
def jA (i : Nat) : Nat → Int64
  | 0 => 0
  | k + 1 => 32 * jA i k + (jB i k - 97 + 1).toInt64
theorem jA_pk : ∀ i, i < 17 → xpk (UInt32.ofNat i) = some (jA i (jLen.getD i 0)) := by decide +kernel
section JP
variable {l : Launch} {dd : va_G} {cy : Nat → ClassId} {z : Nat} {sa : UInt32 → Nat} {av : Nat → Nat} {σ : xM}
theorem j_packed {d i : Nat} (hi : i < 17) : jM l dd cy z sa av (xE 164).1 (xE 164).2.1 (xE 164).2.2.1 (xE 164).2.2.2.1 (d + 4) [.ref (sa (UInt32.ofNat i))] σ (some (.long (jA i (jLen.getD i 0)))) := by
  have h100 := (j_all i hi).1
  refine j_of (by decide) (by show 1 ≤ 4; decide) ?_
  intro p e s m below meth c C arr hl
  have C0 : jCx dd cy z sa (jZ z sa av) p s m #[.ref (sa (UInt32.ofNat i))] meth c "LastAskedModel" (xE 164).2.1 4 (some .long) σ := C
  obtain ⟨hx, hb, hml, hown, hts, hret, hlocks, hz, hP, hK, hZ, hZs⟩ := C
  refine lv_lconst hx hb (v := 0) jd_p_0 (by decide) ?_
  refine lv_lstore_n hx hb (i := 1) (nL := 4) (lv' := [(1, .long 0), (0, .ref (sa (UInt32.ofNat i)))]) jd_p_1 rfl hl (by decide) rfl (fun l1 hl1 => ?_)
  refine lv_iconst hx hb (v := nI 0) jd_p_2 (by decide) ?_
  refine lv_istore_n hx hb (i := 3) (nL := 4) (lv' := [(3, .int (nI 0)), (1, .long 0), (0, .ref (sa (UInt32.ofNat i)))]) jd_p_3 rfl hl1 (by decide) rfl (fun l2 hl2 => ?_)
  have loop : ∀ (n k : Nat), k + n = jLen.getD i 0 → ∀ (ls : Array Slot) (H : Heap) (locs : List Loc), lv_has ls 4 [(3, .int (nI k)), (1, .long (jA i k)), (0, .ref (sa (UInt32.ofNat i)))] → va_P dd vwC2 (xW cy (xad z sa) σ) H → va_S (fun q => z ≤ q) s.heap H locs →
      W p l e (xRm (d + 4) 0 0) s m #[.ref (sa (UInt32.ofNat i))] below meth c H locs 0 0 (MQ below (xQ dd cy z sa (jZ z sa av) (some (.long (jA i (jLen.getD i 0)))) σ) #[.ref (sa (UInt32.ofNat i))] s 0 0 (fun q => z ≤ q)) (F0 m 4 ls []) := by
    intro n
    induction n with
    | zero =>
      intro k hk ls H locs hl hP hS
      obtain rfl : k = jLen.getD i 0 := by omega
      refine lv_iload_n hx hb (i := 3) jd_p_4 rfl (lv_at hl 0 rfl) ?_
      refine lv_aload_n hx hb (i := 0) jd_p_5 rfl (lv_at hl 2 rfl) ?_
      refine j_callV (As := []) (rest := [.int (nI (jLen.getD i 0))]) (jZ_st z sa av) C0 hl.1 ⟨Nat.le_refl _, Nat.le_refl _⟩ (by decide) (j_length (d := d + 2) hi) jc_jLn jw_S ji_jLn je_jLn jl_jLn (by decide) jg_jLn (vk_recv hZs.1 hi hS) (by show 1 ≤ 8; decide) jd_p_6 hP hS ?_
      intro H1 locs1 hP1 hS1
      refine lv_icmp_ge hx hb (tgt := 36) jd_p_9 (by decide) (fun _ => ?_) (fun h => absurd (Int32.le_refl _) h)
      refine lv_lload_n hx hb (i := 1) jd_p_36 rfl (lv_at hl 1 rfl) ?_
      exact j_lret (jZ_st z sa av) C0 hP1 hS1 jd_p_37
    | succ n ih =>
      intro k hk ls H locs hl hP hS
      have hk1 : k < jLen.getD i 0 := by omega
      refine lv_iload_n hx hb (i := 3) jd_p_4 rfl (lv_at hl 0 rfl) ?_
      refine lv_aload_n hx hb (i := 0) jd_p_5 rfl (lv_at hl 2 rfl) ?_
      refine j_callV (As := []) (rest := [.int (nI k)]) (jZ_st z sa av) C0 hl.1 ⟨Nat.le_refl _, Nat.le_refl _⟩ (by decide) (j_length (d := d + 2) hi) jc_jLn jw_S ji_jLn je_jLn jl_jLn (by decide) jg_jLn (vk_recv hZs.1 hi hS) (by show 1 ≤ 8; decide) jd_p_6 hP hS ?_
      intro H1 locs1 hP1 hS1
      refine lv_icmp_ge hx hb (tgt := 36) jd_p_9 (by decide) (fun h => absurd h (nI_ge hk1 (by omega))) (fun _ => ?_)
      refine lv_ldc2 hx hb hown (hts _ jw_77) jd_p_12 ?_
      refine lv_lload_n hx hb (i := 1) jd_p_15 rfl (lv_at hl 1 rfl) ?_
      refine lv_lmul hx hb jd_p_16 ?_
      refine lv_aload_n hx hb (i := 0) jd_p_17 rfl (lv_at hl 2 rfl) ?_
      refine lv_iload_n hx hb (i := 3) jd_p_18 rfl (lv_at hl 0 rfl) ?_
      refine j_callV (As := [.int (nI k)]) (rest := [.long (32 * jA i k)]) (jZ_st z sa av) C0 hl.1 ⟨Nat.le_refl _, Nat.le_refl _⟩ (by decide) (j_char (d := d) hi hk1) jc_jCh jw_S ji_jCh je_jCh jl_jCh (by decide) jg_jCh (vk_recv hZs.1 hi hS1) (by show 2 ≤ 8; decide) jd_p_19 hP1 hS1 ?_
      intro H2 locs2 hP2 hS2
      refine lv_bipush hx hb (v := 97) jd_p_22 (by decide) ?_
      refine lv_isub hx hb jd_p_24 ?_
      refine lv_iconst hx hb (v := 1) jd_p_25 (by decide) ?_
      refine lv_iadd hx hb jd_p_26 ?_
      refine lv_i2l hx hb (v := (jB i k - 97 + 1).toInt64) jd_p_27 rfl ?_
      refine lv_ladd hx hb jd_p_28 ?_
      refine lv_lstore_n hx hb (i := 1) (nL := 4) (lv' := [(1, .long (jA i (k + 1))), (3, .int (nI k)), (0, .ref (sa (UInt32.ofNat i)))]) jd_p_29 rfl hl (by decide) rfl (fun l3 hl3 => ?_)
      refine lv_iinc hx hb (i := 3) (nL := 4) (k := 1) (x := nI k) (v := nI (k + 1)) (lv' := [(3, .int (nI (k + 1))), (1, .long (jA i (k + 1))), (0, .ref (sa (UInt32.ofNat i)))]) jd_p_30 hl3 rfl (nI_1 k) (by decide) rfl (fun l4 hl4 => ?_)
      refine lv_goto hx hb (tgt := 4) jd_p_33 (by decide) ?_
      exact ih (k + 1) (by omega) l4 H2 locs2 hl4 hP2 hS2
  exact loop (jLen.getD i 0) 0 (Nat.zero_add _) l2 s.heap [] hl2 hP va_S.rf
/-- what is owed for the prims -/
theorem j_prim (d k : Nat) (as : List Value) (σ : xM) (y : Option Value × xM) (h : xprim d k as σ = some y) : xMetP l dd cy z sa (jZ z sa av) d k as σ y.1 y.2 := by
  unfold xprim at h
  rw [Bool.cond_eq_ite] at h
  split at h
  · rename_i hc
    simp only [Bool.and_eq_true, Nat.beq_eq] at hc
    obtain ⟨rfl, hd⟩ := hc
    have hd5 : 5 ≤ d := Nat.le_of_ble_eq_true hd
    split at h
    · rename_i b
      have hb17 : b.toNat < 17 := by
        rcases Nat.lt_or_ge b.toNat 17 with q | q
        · exact q
        · rw [show xpk b = none from List.getElem?_eq_none (by simpa using q)] at h
          cases h
      obtain ⟨n, hn, rfl⟩ : ∃ n, n < 17 ∧ b = UInt32.ofNat n := ⟨b.toNat, hb17, (UInt32.ofNat_toNat).symm⟩
      rw [jA_pk n hn] at h
      cases h
      obtain ⟨d', rfl⟩ : ∃ d', d = d' + 4 := ⟨d - 4, by omega⟩
      unfold xMetP
      rw [Nat.sub_self, Nat.sub_self]
      exact j_packed (d := d') hn
    · cases h
  · cases h
end JP
