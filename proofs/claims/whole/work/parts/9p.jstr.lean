/-! the words of the JDK's methods, their contracts, packed -/
def jLn : MethodName := ⟨"java/lang/String", "length", "()I"⟩
def jCo : MethodName := ⟨"java/lang/String", "coder", "()B"⟩
def jCh : MethodName := ⟨"java/lang/String", "charAt", "(I)C"⟩
def jLa : MethodName := ⟨"java/lang/String", "isLatin1", "()Z"⟩
def jCk : MethodName := ⟨"java/lang/String", "checkIndex", "(II)V"⟩
def jLc : MethodName := ⟨"java/lang/StringLatin1", "charAt", "([BI)C"⟩
def jPr : MethodName := ⟨"jdk/internal/util/Preconditions", "checkIndex", "(IILjava/util/function/BiFunction;)I"⟩
set_option maxRecDepth 30000 in
theorem jw_S : Cond.initialized "java/lang/String" ∈ xTs := xTs_of (x_t 13 rfl) rfl
set_option maxRecDepth 30000 in
theorem jw_L : Cond.initialized "java/lang/StringLatin1" ∈ xTs := xTs_of (x_t 14 rfl) rfl
set_option maxRecDepth 30000 in
theorem jw_P : Cond.initialized "jdk/internal/util/Preconditions" ∈ xTs := xTs_of (x_t 15 rfl) rfl
set_option maxRecDepth 30000 in
theorem jc_jLn : Cond.code jLn prog_19_method_54_code 1 (some .int) ∈ xTs := xTs_of (x_t 1226 rfl) rfl
set_option maxRecDepth 30000 in
theorem jc_jCo : Cond.code jCo prog_19_method_152_code 1 (some .byte) ∈ xTs := xTs_of (x_t 1230 rfl) rfl
set_option maxRecDepth 30000 in
theorem jc_jCh : Cond.code jCh prog_19_method_56_code 2 (some .char) ∈ xTs := xTs_of (x_t 1236 rfl) rfl
set_option maxRecDepth 30000 in
theorem jc_jLa : Cond.code jLa prog_19_method_154_code 1 (some .boolean) ∈ xTs := xTs_of (x_t 1240 rfl) rfl
set_option maxRecDepth 30000 in
theorem jc_jLc : Cond.code jLc prog_20_method_2_code 2 (some .char) ∈ xTs := xTs_of (x_t 1243 rfl) rfl
set_option maxRecDepth 30000 in
theorem jc_jCk : Cond.code jCk prog_19_method_155_code 2 none ∈ xTs := xTs_of (x_t 1246 rfl) rfl
set_option maxRecDepth 30000 in
theorem jc_jPr : Cond.code jPr prog_27_method_11_code 3 (some .int) ∈ xTs := xTs_of (x_t 1251 rfl) rfl
set_option maxRecDepth 30000 in
theorem jl_jLn : Cond.methodLink "LastAskedModel" 71 jLn ∈ xTs := xTs_of (x_t 1223 rfl) rfl
set_option maxRecDepth 30000 in
theorem jl_jCh : Cond.methodLink "LastAskedModel" 79 jCh ∈ xTs := xTs_of (x_t 1233 rfl) rfl
set_option maxRecDepth 30000 in
theorem jl_jCo : Cond.methodLink "java/lang/String" 335 jCo ∈ xTs := xTs_of (x_t 1227 rfl) rfl
set_option maxRecDepth 30000 in
theorem jl_jLa : Cond.methodLink "java/lang/String" 492 jLa ∈ xTs := xTs_of (x_t 1237 rfl) rfl
set_option maxRecDepth 30000 in
theorem jl_jLc : Cond.methodLink "java/lang/String" 495 jLc ∈ xTs := xTs_of (x_t 1241 rfl) rfl
set_option maxRecDepth 30000 in
theorem jl_jCk : Cond.methodLink "java/lang/StringLatin1" 9 jCk ∈ xTs := xTs_of (x_t 1244 rfl) rfl
set_option maxRecDepth 30000 in
theorem jl_jPr : Cond.methodLink "java/lang/String" 1059 jPr ∈ xTs := xTs_of (x_t 1249 rfl) rfl
set_option maxRecDepth 30000 in
theorem ji_jLn : Cond.instanceMethod jLn ∈ xTs := xTs_of (x_t 1224 rfl) rfl
set_option maxRecDepth 30000 in
theorem ji_jCo : Cond.instanceMethod jCo ∈ xTs := xTs_of (x_t 1228 rfl) rfl
set_option maxRecDepth 30000 in
theorem ji_jCh : Cond.instanceMethod jCh ∈ xTs := xTs_of (x_t 1234 rfl) rfl
set_option maxRecDepth 30000 in
theorem ji_jLa : Cond.instanceMethod jLa ∈ xTs := xTs_of (x_t 1238 rfl) rfl
set_option maxRecDepth 30000 in
theorem je_jLn : Cond.selects "java/lang/String" jLn jLn ∈ xTs := xTs_of (x_t 1225 rfl) rfl
set_option maxRecDepth 30000 in
theorem je_jCo : Cond.selects "java/lang/String" jCo jCo ∈ xTs := xTs_of (x_t 1229 rfl) rfl
set_option maxRecDepth 30000 in
theorem je_jCh : Cond.selects "java/lang/String" jCh jCh ∈ xTs := xTs_of (x_t 1235 rfl) rfl
set_option maxRecDepth 30000 in
theorem je_jLa : Cond.selects "java/lang/String" jLa jLa ∈ xTs := xTs_of (x_t 1239 rfl) rfl
set_option maxRecDepth 30000 in
theorem js_jLc : Cond.static jLc ∈ xTs := xTs_of (x_t 1242 rfl) rfl
set_option maxRecDepth 30000 in
theorem js_jCk : Cond.static jCk ∈ xTs := xTs_of (x_t 1245 rfl) rfl
set_option maxRecDepth 30000 in
theorem js_jPr : Cond.static jPr ∈ xTs := xTs_of (x_t 1250 rfl) rfl
set_option maxRecDepth 30000 in
theorem jf_c : Cond.fieldLink "java/lang/String" 38 "java/lang/String" "COMPACT_STRINGS" "Z" ∈ xTs := xTs_of (x_t 1231 rfl) rfl
set_option maxRecDepth 30000 in
theorem jf_f : Cond.fieldLink "java/lang/String" 1053 "jdk/internal/util/Preconditions" "SIOOBE_FORMATTER" "Ljava/util/function/BiFunction;" ∈ xTs := xTs_of (x_t 1247 rfl) rfl
set_option maxRecDepth 30000 in
theorem jf_v : Cond.fieldLink "java/lang/String" 9 "java/lang/String" "value" "[B" ∈ xTs := xTs_of (x_t 1753 rfl) rfl
set_option maxRecDepth 30000 in
theorem jf_o : Cond.fieldLink "java/lang/String" 15 "java/lang/String" "coder" "B" ∈ xTs := xTs_of (x_t 1754 rfl) rfl
theorem jd_jLn_0 : decode prog_19_method_54_code 0 = .ok (.aload_n 0, 1) := by decide +kernel
theorem jd_jLn_1 : decode prog_19_method_54_code 1 = .ok (.getfield 9, 3) := by decide +kernel
theorem jd_jLn_4 : decode prog_19_method_54_code 4 = .ok (.arraylength, 1) := by decide +kernel
theorem jd_jLn_5 : decode prog_19_method_54_code 5 = .ok (.aload_n 0, 1) := by decide +kernel
theorem jd_jLn_6 : decode prog_19_method_54_code 6 = .ok (.invokevirtual 335, 3) := by decide +kernel
theorem jd_jLn_9 : decode prog_19_method_54_code 9 = .ok (.ishr, 1) := by decide +kernel
theorem jd_jLn_10 : decode prog_19_method_54_code 10 = .ok (.ireturn, 1) := by decide +kernel
theorem jd_jCo_0 : decode prog_19_method_152_code 0 = .ok (.getstatic 38, 3) := by decide +kernel
theorem jd_jCo_3 : decode prog_19_method_152_code 3 = .ok (.ifCond .eq 10, 3) := by decide +kernel
theorem jd_jCo_6 : decode prog_19_method_152_code 6 = .ok (.aload_n 0, 1) := by decide +kernel
theorem jd_jCo_7 : decode prog_19_method_152_code 7 = .ok (.getfield 15, 3) := by decide +kernel
theorem jd_jCo_10 : decode prog_19_method_152_code 10 = .ok (.goto 4, 3) := by decide +kernel
theorem jd_jCo_13 : decode prog_19_method_152_code 13 = .ok (.iconst 1, 1) := by decide +kernel
theorem jd_jCo_14 : decode prog_19_method_152_code 14 = .ok (.ireturn, 1) := by decide +kernel
theorem jd_jCh_0 : decode prog_19_method_56_code 0 = .ok (.aload_n 0, 1) := by decide +kernel
theorem jd_jCh_1 : decode prog_19_method_56_code 1 = .ok (.invokevirtual 492, 3) := by decide +kernel
theorem jd_jCh_4 : decode prog_19_method_56_code 4 = .ok (.ifCond .eq 12, 3) := by decide +kernel
theorem jd_jCh_7 : decode prog_19_method_56_code 7 = .ok (.aload_n 0, 1) := by decide +kernel
theorem jd_jCh_8 : decode prog_19_method_56_code 8 = .ok (.getfield 9, 3) := by decide +kernel
theorem jd_jCh_11 : decode prog_19_method_56_code 11 = .ok (.iload_n 1, 1) := by decide +kernel
theorem jd_jCh_12 : decode prog_19_method_56_code 12 = .ok (.invokestatic 495, 3) := by decide +kernel
theorem jd_jCh_15 : decode prog_19_method_56_code 15 = .ok (.ireturn, 1) := by decide +kernel
theorem jd_jCh_16 : decode prog_19_method_56_code 16 = .ok (.aload_n 0, 1) := by decide +kernel
theorem jd_jCh_17 : decode prog_19_method_56_code 17 = .ok (.getfield 9, 3) := by decide +kernel
theorem jd_jCh_20 : decode prog_19_method_56_code 20 = .ok (.iload_n 1, 1) := by decide +kernel
theorem jd_jCh_21 : decode prog_19_method_56_code 21 = .ok (.invokestatic 498, 3) := by decide +kernel
theorem jd_jCh_24 : decode prog_19_method_56_code 24 = .ok (.ireturn, 1) := by decide +kernel
theorem jd_jLa_0 : decode prog_19_method_154_code 0 = .ok (.getstatic 38, 3) := by decide +kernel
theorem jd_jLa_3 : decode prog_19_method_154_code 3 = .ok (.ifCond .eq 14, 3) := by decide +kernel
theorem jd_jLa_6 : decode prog_19_method_154_code 6 = .ok (.aload_n 0, 1) := by decide +kernel
theorem jd_jLa_7 : decode prog_19_method_154_code 7 = .ok (.getfield 15, 3) := by decide +kernel
theorem jd_jLa_10 : decode prog_19_method_154_code 10 = .ok (.ifCond .ne 7, 3) := by decide +kernel
theorem jd_jLa_13 : decode prog_19_method_154_code 13 = .ok (.iconst 1, 1) := by decide +kernel
theorem jd_jLa_14 : decode prog_19_method_154_code 14 = .ok (.goto 4, 3) := by decide +kernel
theorem jd_jLa_17 : decode prog_19_method_154_code 17 = .ok (.iconst 0, 1) := by decide +kernel
theorem jd_jLa_18 : decode prog_19_method_154_code 18 = .ok (.ireturn, 1) := by decide +kernel
theorem jd_jCk_0 : decode prog_19_method_155_code 0 = .ok (.iload_n 0, 1) := by decide +kernel
theorem jd_jCk_1 : decode prog_19_method_155_code 1 = .ok (.iload_n 1, 1) := by decide +kernel
theorem jd_jCk_2 : decode prog_19_method_155_code 2 = .ok (.getstatic 1053, 3) := by decide +kernel
theorem jd_jCk_5 : decode prog_19_method_155_code 5 = .ok (.invokestatic 1059, 3) := by decide +kernel
theorem jd_jCk_8 : decode prog_19_method_155_code 8 = .ok (.pop, 1) := by decide +kernel
theorem jd_jCk_9 : decode prog_19_method_155_code 9 = .ok (.return_, 1) := by decide +kernel
theorem jd_jLc_0 : decode prog_20_method_2_code 0 = .ok (.iload_n 1, 1) := by decide +kernel
theorem jd_jLc_1 : decode prog_20_method_2_code 1 = .ok (.aload_n 0, 1) := by decide +kernel
theorem jd_jLc_2 : decode prog_20_method_2_code 2 = .ok (.arraylength, 1) := by decide +kernel
theorem jd_jLc_3 : decode prog_20_method_2_code 3 = .ok (.invokestatic 9, 3) := by decide +kernel
theorem jd_jLc_6 : decode prog_20_method_2_code 6 = .ok (.aload_n 0, 1) := by decide +kernel
theorem jd_jLc_7 : decode prog_20_method_2_code 7 = .ok (.iload_n 1, 1) := by decide +kernel
theorem jd_jLc_8 : decode prog_20_method_2_code 8 = .ok (.baload, 1) := by decide +kernel
theorem jd_jLc_9 : decode prog_20_method_2_code 9 = .ok (.sipush 255, 3) := by decide +kernel
theorem jd_jLc_12 : decode prog_20_method_2_code 12 = .ok (.iand, 1) := by decide +kernel
theorem jd_jLc_13 : decode prog_20_method_2_code 13 = .ok (.i2c, 1) := by decide +kernel
theorem jd_jLc_14 : decode prog_20_method_2_code 14 = .ok (.ireturn, 1) := by decide +kernel
theorem jd_jPr_0 : decode prog_27_method_11_code 0 = .ok (.iload_n 0, 1) := by decide +kernel
theorem jd_jPr_1 : decode prog_27_method_11_code 1 = .ok (.ifCond .lt 8, 3) := by decide +kernel
theorem jd_jPr_4 : decode prog_27_method_11_code 4 = .ok (.iload_n 0, 1) := by decide +kernel
theorem jd_jPr_5 : decode prog_27_method_11_code 5 = .ok (.iload_n 1, 1) := by decide +kernel
theorem jd_jPr_6 : decode prog_27_method_11_code 6 = .ok (.if_icmp .lt 10, 3) := by decide +kernel
theorem jd_jPr_9 : decode prog_27_method_11_code 9 = .ok (.aload_n 2, 1) := by decide +kernel
theorem jd_jPr_10 : decode prog_27_method_11_code 10 = .ok (.iload_n 0, 1) := by decide +kernel
theorem jd_jPr_11 : decode prog_27_method_11_code 11 = .ok (.iload_n 1, 1) := by decide +kernel
theorem jd_jPr_12 : decode prog_27_method_11_code 12 = .ok (.invokestatic 95, 3) := by decide +kernel
theorem jd_jPr_15 : decode prog_27_method_11_code 15 = .ok (.athrow, 1) := by decide +kernel
theorem jd_jPr_16 : decode prog_27_method_11_code 16 = .ok (.iload_n 0, 1) := by decide +kernel
theorem jd_jPr_17 : decode prog_27_method_11_code 17 = .ok (.ireturn, 1) := by decide +kernel
theorem jg_jPr : (parseMethodDescriptor jPr.desc).map (fun q => q.parameters.length) = some 3 := by decide +kernel
theorem jg_jCk : (parseMethodDescriptor jCk.desc).map (fun q => q.parameters.length) = some 2 := by decide +kernel
theorem jg_jLc : (parseMethodDescriptor jLc.desc).map (fun q => q.parameters.length) = some 2 := by decide +kernel
theorem jg_jCh : (parseMethodDescriptor jCh.desc).map (fun q => q.parameters.length) = some 1 := by decide +kernel
theorem jg_jLn : (parseMethodDescriptor jLn.desc).map (fun q => q.parameters.length) = some 0 := by decide +kernel
/-- every text's length and bytes -/
theorem j_all : ∀ i, i < 17 → (jLen.getD i 0 < 100 ∧ ∀ k, k < jLen.getD i 0 → (0 : Int32) ≤ (jByt.getD i []).getD k 0 ∧ (jByt.getD i []).getD k 0 < 128) := by decide +kernel
def jB (i k : Nat) : Int32 := (jByt.getD i []).getD k 0
section JM
variable {l : Launch} {dd : va_G} {cy : Nat → ClassId} {z : Nat} {sa : UInt32 → Nat} {av : Nat → Nat} {σ : xM}
abbrev jM (l : Launch) (dd : va_G) (cy : Nat → ClassId) (z : Nat) (sa : UInt32 → Nat) (av : Nat → Nat) (y : MethodName) (cc : ByteArray) (ml : Nat) (ret : Option FieldType) (d : Nat) (vs : List Value) (σ : xM) (r : Option Value) : Prop := jMet l dd cy z sa (jZ z sa av) y cc ml ret d vs σ r
/-- coder() -/
theorem j_coder {d i : Nat} (hi : i < 17) : jM l dd cy z sa av jCo prog_19_method_152_code 1 (some .byte) d [.ref (sa (UInt32.ofNat i))] σ (some (.int 0)) := by
  refine j_of (by decide) (Nat.le_refl _) ?_
  intro p e s m below meth c C arr hl
  have C0 := C
  obtain ⟨hx, hb, hml, hown, hts, hret, hlocks, hz, hP, hK, hZ, hZs⟩ := C
  refine va_gets hx hb hZs.2.1 va_S.rf hown (hts _ jf_c) (fun _ h => h) jd_jCo_0 ?_
  refine lv_if_eq hx hb (tgt := 13) jd_jCo_3 (by decide) (fun h => absurd h (by decide)) (fun _ => ?_)
  refine lv_aload_n hx hb (i := 0) jd_jCo_6 rfl (lv_at hl 0 rfl) ?_
  refine vk_getf hx hb (hZs.1.1 i hi).2.1 va_S.rf hown (hts _ jf_o) (fun _ h => h) jd_jCo_7 ?_
  refine lv_goto hx hb (tgt := 14) jd_jCo_10 (by decide) ?_
  exact j_iret (jZ_st z sa av) C0 (by decide) hP va_S.rf jd_jCo_14
/-- isLatin1() -/
theorem j_latin {d i : Nat} (hi : i < 17) : jM l dd cy z sa av jLa prog_19_method_154_code 1 (some .boolean) d [.ref (sa (UInt32.ofNat i))] σ (some (.int 1)) := by
  refine j_of (by decide) (Nat.le_refl _) ?_
  intro p e s m below meth c C arr hl
  have C0 := C
  obtain ⟨hx, hb, hml, hown, hts, hret, hlocks, hz, hP, hK, hZ, hZs⟩ := C
  refine va_gets hx hb hZs.2.1 va_S.rf hown (hts _ jf_c) (fun _ h => h) jd_jLa_0 ?_
  refine lv_if_eq hx hb (tgt := 17) jd_jLa_3 (by decide) (fun h => absurd h (by decide)) (fun _ => ?_)
  refine lv_aload_n hx hb (i := 0) jd_jLa_6 rfl (lv_at hl 0 rfl) ?_
  refine vk_getf hx hb (hZs.1.1 i hi).2.1 va_S.rf hown (hts _ jf_o) (fun _ h => h) jd_jLa_7 ?_
  refine lv_if_ne hx hb (tgt := 17) jd_jLa_10 (by decide) (fun h => absurd rfl h) (fun _ => ?_)
  refine lv_iconst hx hb (v := 1) jd_jLa_13 (by decide) ?_
  refine lv_goto hx hb (tgt := 18) jd_jLa_14 (by decide) ?_
  exact j_iret (jZ_st z sa av) C0 (by decide) hP va_S.rf jd_jLa_18
/-- length() -/
theorem j_length {d i : Nat} (hi : i < 17) : jM l dd cy z sa av jLn prog_19_method_54_code 1 (some .int) (d + 1) [.ref (sa (UInt32.ofNat i))] σ (some (.int (nI (jLen.getD i 0)))) := by
  refine j_of (by decide) (Nat.le_refl _) ?_
  intro p e s m below meth c C arr hl
  have C0 := C
  obtain ⟨hx, hb, hml, hown, hts, hret, hlocks, hz, hP, hK, hZ, hZs⟩ := C
  refine lv_aload_n hx hb (i := 0) jd_jLn_0 rfl (lv_at hl 0 rfl) ?_
  refine vk_getf hx hb (hZs.1.1 i hi).2.2.1 va_S.rf hown (hts _ jf_v) (fun _ h => h) jd_jLn_1 ?_
  refine va_tlen hx hb (hZs.1.1 i hi).2.2.2 va_S.rf (v := nI (jLen.getD i 0)) rfl jd_jLn_4 ?_
  refine lv_aload_n hx hb (i := 0) jd_jLn_5 rfl (lv_at hl 0 rfl) ?_
  refine j_callV (As := []) (rest := [.int (nI (jLen.getD i 0))]) (jZ_st z sa av) C0 hl.1 ⟨Nat.le_refl _, Nat.le_refl _⟩ (by decide) (j_coder (d := d) hi) jc_jCo jw_S ji_jCo je_jCo jl_jCo (by decide) (by decide +kernel) (vk_recv hZs.1 hi va_S.rf) (by show 1 ≤ 8; decide) jd_jLn_6 hP va_S.rf ?_
  intro H1 locs1 hP1 hS1
  refine lv_ishr hx hb jd_jLn_9 ?_
  have e0 : nI (jLen.getD i 0) >>> ((0 : Int32) &&& 31) = nI (jLen.getD i 0) := by
    have : ∀ i, i < 17 → nI (jLen.getD i 0) >>> ((0 : Int32) &&& 31) = nI (jLen.getD i 0) := by decide +kernel
    exact this i hi
  rw [e0]
  exact j_iret (jZ_st z sa av) C0 rfl hP1 hS1 jd_jLn_10
/-- Preconditions.checkIndex -/
theorem j_prec {d i k : Nat} {v : Value} (hi : i < 17) (hk : k < jLen.getD i 0) (hv : v = .null ∨ ∃ t, v = .ref t) : jM l dd cy z sa av jPr prog_27_method_11_code 3 (some .int) d [.int (nI k), .int (nI (jLen.getD i 0)), v] σ (some (.int (nI k))) := by
  have h100 := (j_all i hi).1
  refine j_of (by decide) (by rcases hv with rfl | ⟨t, rfl⟩ <;> exact Nat.le_refl _) ?_
  intro p e s m below meth c C arr hl
  have C0 := C
  obtain ⟨hx, hb, hml, hown, hts, hret, hlocks, hz, hP, hK, hZ, hZs⟩ := C
  have l0 : arr[0]? = some (.val (.int (nI k))) := lv_at hl 0 (by rcases hv with rfl | ⟨t, rfl⟩ <;> rfl)
  have l1 : arr[1]? = some (.val (.int (nI (jLen.getD i 0)))) := lv_at hl 1 (by rcases hv with rfl | ⟨t, rfl⟩ <;> rfl)
  refine lv_iload_n hx hb (i := 0) jd_jPr_0 rfl l0 ?_
  refine lv_if_lt hx hb (tgt := 9) jd_jPr_1 (by decide) (fun h => absurd h (nI_pos (by omega))) (fun _ => ?_)
  refine lv_iload_n hx hb (i := 0) jd_jPr_4 rfl l0 ?_
  refine lv_iload_n hx hb (i := 1) jd_jPr_5 rfl l1 ?_
  refine lv_icmp_lt hx hb (tgt := 16) jd_jPr_6 (by decide) (fun _ => ?_) (fun h => absurd (nI_lt hk (by omega)) h)
  refine lv_iload_n hx hb (i := 0) jd_jPr_16 rfl l0 ?_
  exact j_iret (jZ_st z sa av) C0 rfl hP va_S.rf jd_jPr_17
/-- String.checkIndex -/
theorem j_check {d i k : Nat} (hi : i < 17) (hk : k < jLen.getD i 0) : jM l dd cy z sa av jCk prog_19_method_155_code 2 none (d + 1) [.int (nI k), .int (nI (jLen.getD i 0))] σ none := by
  refine j_of (by decide) (Nat.le_refl _) ?_
  intro p e s m below meth c C arr hl
  have C0 := C
  obtain ⟨hx, hb, hml, hown, hts, hret, hlocks, hz, hP, hK, hZ, hZs⟩ := C
  refine lv_iload_n hx hb (i := 0) jd_jCk_0 rfl (lv_at hl 0 rfl) ?_
  refine lv_iload_n hx hb (i := 1) jd_jCk_1 rfl (lv_at hl 1 rfl) ?_
  have go : ∀ v : Value, (v = .null ∨ ∃ t, v = .ref t) → va_Z "jdk/internal/util/Preconditions" "SIOOBE_FORMATTER" "Ljava/util/function/BiFunction;" v (fun q => z ≤ q) s s.heap → W p l e (xRm (d + 1) 0 0) s m #[.int (nI k), .int (nI (jLen.getD i 0))] below meth c s.heap [] 0 0 (MQ below (xQ dd cy z sa (jZ z sa av) none σ) #[.int (nI k), .int (nI (jLen.getD i 0))] s 0 0 (fun q => z ≤ q)) (F0 m (0 + 1 + 1) arr [.int (nI (jLen.getD i 0)), .int (nI k)]) := by
    intro v hv hz9
    refine va_gets hx hb hz9 va_S.rf hown (hts _ jf_f) (fun _ h => h) jd_jCk_2 ?_
    have hcat : v.category = 1 := by rcases hv with rfl | ⟨t, rfl⟩ <;> rfl
    refine j_callS (As := [.int (nI k), .int (nI (jLen.getD i 0)), v]) (rest := []) (jZ_st z sa av) C0 hl.1 ⟨Nat.le_refl _, Nat.le_refl _⟩ (by decide) (j_prec (d := d) hi hk hv) jc_jPr jw_P js_jPr jl_jPr (by decide) jg_jPr (by decide) jd_jCk_5 hP va_S.rf ?_
    intro H1 locs1 hP1 hS1
    refine lv_pop hx hb jd_jCk_8 rfl ?_
    exact j_vret (jZ_st z sa av) C0 hP1 hS1 jd_jCk_9
  rcases hZs.2.2.1 with h | ⟨t, h⟩
  · exact go _ (Or.inl rfl) h
  · exact go _ (Or.inr ⟨t, rfl⟩) h
theorem j_ch : ∀ i, i < 17 → ∀ k, k < jLen.getD i 0 → (((jB i k &&& 255).toUInt32 % 65536).toInt32 = jB i k ∧ narrow .char (.int (jB i k)) = .int (jB i k)) := by decide +kernel
/-- StringLatin1.charAt -/
theorem j_lchar {d i k : Nat} (hi : i < 17) (hk : k < jLen.getD i 0) : jM l dd cy z sa av jLc prog_20_method_2_code 2 (some .char) (d + 2) [.ref (av i), .int (nI k)] σ (some (.int (jB i k))) := by
  have h100 := (j_all i hi).1
  refine j_of (by decide) (Nat.le_refl _) ?_
  intro p e s m below meth c C arr hl
  have C0 := C
  obtain ⟨hx, hb, hml, hown, hts, hret, hlocks, hz, hP, hK, hZ, hZs⟩ := C
  refine lv_iload_n hx hb (i := 1) jd_jLc_0 rfl (lv_at hl 1 rfl) ?_
  refine lv_aload_n hx hb (i := 0) jd_jLc_1 rfl (lv_at hl 0 rfl) ?_
  refine va_tlen hx hb (hZs.1.1 i hi).2.2.2 va_S.rf (v := nI (jLen.getD i 0)) rfl jd_jLc_2 ?_
  refine j_callS (As := [.int (nI k), .int (nI (jLen.getD i 0))]) (rest := []) (jZ_st z sa av) C0 hl.1 ⟨Nat.le_refl _, Nat.le_refl _⟩ (by decide) (j_check (d := d) hi hk) jc_jCk jw_S js_jCk jl_jCk (by decide) jg_jCk (by decide) jd_jLc_3 hP va_S.rf ?_
  intro H1 locs1 hP1 hS1
  refine lv_aload_n hx hb (i := 0) jd_jLc_6 rfl (lv_at hl 0 rfl) ?_
  refine lv_iload_n hx hb (i := 1) jd_jLc_7 rfl (lv_at hl 1 rfl) ?_
  refine va_tb hx hb (hZs.1.1 i hi).2.2.2 hS1 (vp_in_nI hk (by omega)) (v := .int (jB i k)) (by rw [nI_clamp (by omega)]; rfl) jd_jLc_8 ?_
  refine lv_sipush hx hb (v := 255) jd_jLc_9 (by decide) ?_
  refine lv_iand hx hb jd_jLc_12 ?_
  obtain ⟨q1, q2⟩ := j_ch i hi k hk
  refine lv_i2c hx hb (v := jB i k) jd_jLc_13 q1 ?_
  exact j_iret (jZ_st z sa av) C0 q2 hP1 hS1 jd_jLc_14
/-- charAt(k) -/
theorem j_char {d i k : Nat} (hi : i < 17) (hk : k < jLen.getD i 0) : jM l dd cy z sa av jCh prog_19_method_56_code 2 (some .char) (d + 3) [.ref (sa (UInt32.ofNat i)), .int (nI k)] σ (some (.int (jB i k))) := by
  refine j_of (by decide) (Nat.le_refl _) ?_
  intro p e s m below meth c C arr hl
  have C0 := C
  obtain ⟨hx, hb, hml, hown, hts, hret, hlocks, hz, hP, hK, hZ, hZs⟩ := C
  refine lv_aload_n hx hb (i := 0) jd_jCh_0 rfl (lv_at hl 0 rfl) ?_
  refine j_callV (As := []) (rest := []) (jZ_st z sa av) C0 hl.1 ⟨Nat.le_refl _, Nat.le_refl _⟩ (by decide) (j_latin (d := d + 2) hi) jc_jLa jw_S ji_jLa je_jLa jl_jLa (by decide) (by decide +kernel) (vk_recv hZs.1 hi va_S.rf) (by decide) jd_jCh_1 hP va_S.rf ?_
  intro H1 locs1 hP1 hS1
  refine lv_if_eq hx hb (tgt := 16) jd_jCh_4 (by decide) (fun h => absurd h (by decide)) (fun _ => ?_)
  refine lv_aload_n hx hb (i := 0) jd_jCh_7 rfl (lv_at hl 0 rfl) ?_
  refine vk_getf hx hb (hZs.1.1 i hi).2.2.1 hS1 hown (hts _ jf_v) (fun _ h => h) jd_jCh_8 ?_
  refine lv_iload_n hx hb (i := 1) jd_jCh_11 rfl (lv_at hl 1 rfl) ?_
  refine j_callS (As := [.ref (av i), .int (nI k)]) (rest := []) (jZ_st z sa av) C0 hl.1 ⟨Nat.le_refl _, Nat.le_refl _⟩ (by decide) (j_lchar (d := d) hi hk) jc_jLc jw_L js_jLc jl_jLc (by decide) jg_jLc (by decide) jd_jCh_12 hP1 hS1 ?_
  intro H2 locs2 hP2 hS2
  exact j_iret (jZ_st z sa av) C0 (j_ch i hi k hk).2 hP2 hS2 jd_jCh_15
end JM
