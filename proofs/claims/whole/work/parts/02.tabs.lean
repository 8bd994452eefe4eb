def xTT : List (List Nat) := [[0, 0, 0, 0, 0, 0, 0, 2, 2, 2, 2, 2, 2, 2, 2, 2, 2], [0, 2, 2, 2, 2, 2], [0, 0, 0, 2, 2], [0, 0, 2, 0, 2, 0, 0, 0, 0, 0, 1, 3, 2], [0, 0, 0, 0, 0, 2, 2], [2], [2], [2, 2, 2, 2, 2, 2, 2, 2, 0, 0], [0, 0, 0, 0, 0, 0, 0, 2, 2, 2, 2, 2, 2, 2, 2, 2, 2], [0, 0, 0, 2, 2, 2, 0, 0, 0, 0, 0, 0, 0, 0, 1, 0, 2, 2, 2, 2, 0, 0, 2, 2, 0, 1, 1, 2, 2, 0, 2, 2, 2, 0, 0, 0, 0]]
def xNF (c : Nat) : Nat := (xTT.getD c []).length
def xT (c k : Nat) : Nat := (xTT.getD c []).getD k 0
def xkC (c : Nat) : vw_C := vwCl.getD c (RX0, TX0, 17)
def xkT (c : Nat) : Nat → FieldType := match c with
  | 0 => tyX0
  | 1 => tyX1
  | 2 => tyX2
  | 3 => tyX3
  | 4 => tyX4
  | 5 => tyX5
  | 6 => tyX6
  | 7 => tyX7
  | 8 => tyX8
  | _ => tyX9
def xtc (t : FieldType) : Nat := match t with
  | .int => 0
  | .long => 1
  | .boolean => 3
  | .object _ => 2
  | .array _ => 2
  | _ => 9
def x_kcP (c : Nat) : Prop := vwCl[c]? = some (xkC c) ∧ (xkC c).2.2 = xNF c ∧ (∀ w ∈ u_ws (xkC c).1 (xkC c).2.1 (xkC c).2.2, w ∈ lw_tbl) ∧ (∀ k, k < (xkC c).2.2 → parseFieldDescriptor ((xkC c).2.1 k).2.2.1 = some (xkT c k)) ∧ (∀ a, a < (xkC c).2.2 → ∀ b, b < (xkC c).2.2 → a ≠ b → ((xkC c).2.1 a).2.1 ≠ ((xkC c).2.1 b).2.1) ∧ ∀ k, k < (xkC c).2.2 → xtc (xkT c k) = xT c k ∧ ((xkC c).2.1 k).1 = (xkC c).1
theorem x_kc0 : x_kcP 0 := ⟨rfl, rfl, inX0, tyX0_ok, nmX0, by decide +kernel⟩
theorem x_kc1 : x_kcP 1 := ⟨rfl, rfl, inX1, tyX1_ok, nmX1, by decide +kernel⟩
theorem x_kc2 : x_kcP 2 := ⟨rfl, rfl, inX2, tyX2_ok, nmX2, by decide +kernel⟩
theorem x_kc3 : x_kcP 3 := ⟨rfl, rfl, inX3, tyX3_ok, nmX3, by decide +kernel⟩
theorem x_kc4 : x_kcP 4 := ⟨rfl, rfl, inX4, tyX4_ok, nmX4, by decide +kernel⟩
theorem x_kc5 : x_kcP 5 := ⟨rfl, rfl, inX5, tyX5_ok, nmX5, by decide +kernel⟩
theorem x_kc6 : x_kcP 6 := ⟨rfl, rfl, inX6, tyX6_ok, nmX6, by decide +kernel⟩
theorem x_kc7 : x_kcP 7 := ⟨rfl, rfl, inX7, tyX7_ok, nmX7, by decide +kernel⟩
theorem x_kc8 : x_kcP 8 := ⟨rfl, rfl, inX8, tyX8_ok, nmX8, by decide +kernel⟩
theorem x_kc9 : x_kcP 9 := ⟨rfl, rfl, inX9, tyX9_ok, nmX9, by decide +kernel⟩
theorem x_kc (c : Nat) (h : c < 10) : x_kcP c := by
  rcases (show c = 0 ∨ c = 1 ∨ c = 2 ∨ c = 3 ∨ c = 4 ∨ c = 5 ∨ c = 6 ∨ c = 7 ∨ c = 8 ∨ c = 9 by omega) with rfl | rfl | rfl | rfl | rfl | rfl | rfl | rfl | rfl | rfl
  · exact x_kc0
  · exact x_kc1
  · exact x_kc2
  · exact x_kc3
  · exact x_kc4
  · exact x_kc5
  · exact x_kc6
  · exact x_kc7
  · exact x_kc8
  · exact x_kc9
def xRs : List String := ["LastAsked$City", "LastAsked$Fits", "LastAsked$Past", "LastAsked$Reader", "LastAsked$State", "LastAsked$Walks", "LastAsked$Wills", "LastAsked", "LastAskedModel$City", "LastAskedModel", "java/lang/Integer"]
def xR (o : Nat) : String := xRs.getD o ""
/-- a method: name, code, locals, answer, class, arguments (this among them), static -/
abbrev xMe : Type := MethodName × ByteArray × Nat × Option FieldType × Nat × Nat × Bool
def xMs_0 : List xMe := [
  (⟨"LastAsked$City", "<init>", "()V"⟩, prog_2_method_1_code, 1, (Option.none : Option Jvm.ClassFile.FieldType), 0, 1, false),
  (⟨"LastAsked$City", "clear", "()V"⟩, prog_2_method_2_code, 2, (Option.none : Option Jvm.ClassFile.FieldType), 0, 1, false),
  (⟨"LastAsked$City", "copy", "(LLastAsked$City;)V"⟩, prog_2_method_3_code, 2, (Option.none : Option Jvm.ClassFile.FieldType), 0, 2, false),
  (⟨"LastAsked$City", "everybody", "()I"⟩, prog_2_method_4_code, 1, (Option.some Jvm.ClassFile.FieldType.int), 0, 1, false),
  (⟨"LastAsked$City", "allows", "(II)Z"⟩, prog_2_method_5_code, 3, (Option.some Jvm.ClassFile.FieldType.boolean), 0, 3, false),
  (⟨"LastAsked$City", "measureWays", "()V"⟩, prog_2_method_6_code, 4, (Option.none : Option Jvm.ClassFile.FieldType), 0, 1, false),
  (⟨"LastAsked$Fits", "<init>", "()V"⟩, prog_3_method_1_code, 1, (Option.none : Option Jvm.ClassFile.FieldType), 1, 1, false),
  (⟨"LastAsked$Fits", "open", "(LLastAsked$City;)V"⟩, prog_3_method_2_code, 4, (Option.none : Option Jvm.ClassFile.FieldType), 1, 2, false),
  (⟨"LastAsked$Fits", "hourBy", "(II)I"⟩, prog_3_method_3_code, 3, (Option.some Jvm.ClassFile.FieldType.int), 1, 3, false),
  (⟨"LastAsked$Fits", "holds", "(LLastAsked$City;I)Z"⟩, prog_3_method_4_code, 5, (Option.some Jvm.ClassFile.FieldType.boolean), 1, 3, false),
  (⟨"LastAsked$Fits", "countAll", "(LLastAsked$City;)I"⟩, prog_3_method_5_code, 4, (Option.some Jvm.ClassFile.FieldType.int), 1, 2, false),
  (⟨"LastAsked$Fits", "find", "(LLastAsked$City;I)I"⟩, prog_3_method_6_code, 5, (Option.some Jvm.ClassFile.FieldType.int), 1, 3, false),
  (⟨"LastAsked$Fits", "countHeir", "(LLastAsked$City;II)I"⟩, prog_3_method_7_code, 6, (Option.some Jvm.ClassFile.FieldType.int), 1, 4, false),
  (⟨"LastAsked$Fits", "whichToLookAt", "(LLastAsked$City;)I"⟩, prog_3_method_8_code, 6, (Option.some Jvm.ClassFile.FieldType.int), 1, 2, false),
  (⟨"LastAsked$Fits", "countByHours", "(LLastAsked$City;)I"⟩, prog_3_method_9_code, 5, (Option.some Jvm.ClassFile.FieldType.int), 1, 2, false),
  (⟨"LastAsked$Fits", "leftAtMost", "(I)I"⟩, prog_3_method_10_code, 4, (Option.some Jvm.ClassFile.FieldType.int), 1, 2, false),
  (⟨"LastAsked$Past", "<init>", "()V"⟩, prog_4_method_1_code, 2, (Option.none : Option Jvm.ClassFile.FieldType), 2, 1, false),
  (⟨"LastAsked$Past", "forget", "()V"⟩, prog_4_method_2_code, 1, (Option.none : Option Jvm.ClassFile.FieldType), 2, 1, false),
  (⟨"LastAsked$Past", "keep", "(LLastAsked$State;)V"⟩, prog_4_method_3_code, 2, (Option.none : Option Jvm.ClassFile.FieldType), 2, 2, false),
  (⟨"LastAsked$Past", "takeBack", "(LLastAsked$State;)Z"⟩, prog_4_method_4_code, 2, (Option.some Jvm.ClassFile.FieldType.boolean), 2, 2, false),
  (⟨"LastAsked$Past", "addImage", "(LLastAsked$State;)I"⟩, prog_4_method_5_code, 2, (Option.some Jvm.ClassFile.FieldType.int), 2, 2, false),
  (⟨"LastAsked$Past", "showImage", "(ILLastAsked$State;)Z"⟩, prog_4_method_6_code, 3, (Option.some Jvm.ClassFile.FieldType.boolean), 2, 3, false),
  (⟨"LastAsked$Reader", "<init>", "()V"⟩, prog_5_method_1_code, 1, (Option.none : Option Jvm.ClassFile.FieldType), 3, 1, false),
  (⟨"LastAsked$Reader", "append", "(I)V"⟩, prog_5_method_2_code, 3, (Option.none : Option Jvm.ClassFile.FieldType), 3, 2, false),
  (⟨"LastAsked$Reader", "readCity", "(I)I"⟩, prog_5_method_3_code, 4, (Option.some Jvm.ClassFile.FieldType.int), 3, 2, false),
  (⟨"LastAsked$Reader", "spoil", "(I)Z"⟩, prog_5_method_4_code, 2, (Option.some Jvm.ClassFile.FieldType.boolean), 3, 2, false),
  (⟨"LastAsked$Reader", "step", "()I"⟩, prog_5_method_5_code, 1, (Option.some Jvm.ClassFile.FieldType.int), 3, 1, false),
  (⟨"LastAsked$Reader", "stepWord", "()V"⟩, prog_5_method_6_code, 1, (Option.none : Option Jvm.ClassFile.FieldType), 3, 1, false),
  (⟨"LastAsked$Reader", "stepWhole", "()V"⟩, prog_5_method_7_code, 1, (Option.none : Option Jvm.ClassFile.FieldType), 3, 1, false),
  (⟨"LastAsked$Reader", "stands", "(J)Z"⟩, prog_5_method_8_code, 3, (Option.some Jvm.ClassFile.FieldType.boolean), 3, 2, false),
  (⟨"LastAsked$Reader", "takeWord", "(J)Z"⟩, prog_5_method_9_code, 3, (Option.some Jvm.ClassFile.FieldType.boolean), 3, 2, false),
  (⟨"LastAsked$Reader", "takeWhole", "(I)Z"⟩, prog_5_method_10_code, 2, (Option.some Jvm.ClassFile.FieldType.boolean), 3, 2, false),
  (⟨"LastAsked$Reader", "isName", "()Z"⟩, prog_5_method_11_code, 2, (Option.some Jvm.ClassFile.FieldType.boolean), 3, 1, false),
  (⟨"LastAsked$Reader", "bearer", "()I"⟩, prog_5_method_12_code, 2, (Option.some Jvm.ClassFile.FieldType.int), 3, 1, false),
  (⟨"LastAsked$Reader", "personHere", "()I"⟩, prog_5_method_13_code, 2, (Option.some Jvm.ClassFile.FieldType.int), 3, 1, false),
  (⟨"LastAsked$Reader", "takePerson", "()I"⟩, prog_5_method_14_code, 1, (Option.some Jvm.ClassFile.FieldType.int), 3, 1, false),
  (⟨"LastAsked$Reader", "readLine", "()Z"⟩, prog_5_method_15_code, 5, (Option.some Jvm.ClassFile.FieldType.boolean), 3, 1, false),
  (⟨"LastAsked$Reader", "readHead", "()Z"⟩, prog_5_method_16_code, 1, (Option.some Jvm.ClassFile.FieldType.boolean), 3, 1, false),
  (⟨"LastAsked$Reader", "readNewPerson", "()Z"⟩, prog_5_method_17_code, 2, (Option.some Jvm.ClassFile.FieldType.boolean), 3, 1, false),
  (⟨"LastAsked$Reader", "takeKind", "()I"⟩, prog_5_method_18_code, 1, (Option.some Jvm.ClassFile.FieldType.int), 3, 1, false)]
def xMs_1 : List xMe := [
  (⟨"LastAsked$Reader", "readNear", "()Z"⟩, prog_5_method_19_code, 3, (Option.some Jvm.ClassFile.FieldType.boolean), 3, 1, false),
  (⟨"LastAsked$Reader", "takePair", "()I"⟩, prog_5_method_20_code, 3, (Option.some Jvm.ClassFile.FieldType.int), 3, 1, false),
  (⟨"LastAsked$Reader", "readAsked", "()Z"⟩, prog_5_method_21_code, 2, (Option.some Jvm.ClassFile.FieldType.boolean), 3, 1, false),
  (⟨"LastAsked$Reader", "readHeard", "()Z"⟩, prog_5_method_22_code, 3, (Option.some Jvm.ClassFile.FieldType.boolean), 3, 1, false),
  (⟨"LastAsked$Reader", "readWent", "()Z"⟩, prog_5_method_23_code, 3, (Option.some Jvm.ClassFile.FieldType.boolean), 3, 1, false),
  (⟨"LastAsked$State", "<init>", "()V"⟩, prog_6_method_1_code, 1, (Option.none : Option Jvm.ClassFile.FieldType), 4, 1, false),
  (⟨"LastAsked$State", "begin", "(LLastAsked$City;)V"⟩, prog_6_method_2_code, 2, (Option.none : Option Jvm.ClassFile.FieldType), 4, 2, false),
  (⟨"LastAsked$State", "copy", "(LLastAsked$State;)V"⟩, prog_6_method_3_code, 2, (Option.none : Option Jvm.ClassFile.FieldType), 4, 2, false),
  (⟨"LastAsked$State", "alive", "(I)Z"⟩, prog_6_method_4_code, 2, (Option.some Jvm.ClassFile.FieldType.boolean), 4, 2, false),
  (⟨"LastAsked$State", "give", "(III)I"⟩, prog_6_method_5_code, 5, (Option.some Jvm.ClassFile.FieldType.int), 4, 4, false),
  (⟨"LastAsked$State", "draw", "()I"⟩, prog_6_method_6_code, 1, (Option.some Jvm.ClassFile.FieldType.int), 4, 1, false),
  (⟨"LastAsked$State", "leave", "(ILLastAsked$Wills;)V"⟩, prog_6_method_7_code, 6, (Option.none : Option Jvm.ClassFile.FieldType), 4, 3, false),
  (⟨"LastAsked$Walks", "<init>", "()V"⟩, prog_7_method_1_code, 1, (Option.none : Option Jvm.ClassFile.FieldType), 5, 1, false),
  (⟨"LastAsked$Walks", "measure", "(I[I)V"⟩, prog_7_method_2_code, 5, (Option.none : Option Jvm.ClassFile.FieldType), 5, 3, false),
  (⟨"LastAsked$Walks", "leastTo", "(III[I)I"⟩, prog_7_method_3_code, 8, (Option.some Jvm.ClassFile.FieldType.int), 5, 5, false),
  (⟨"LastAsked$Walks", "hoursFor", "(I)I"⟩, prog_7_method_4_code, 4, (Option.some Jvm.ClassFile.FieldType.int), 5, 2, false),
  (⟨"LastAsked$Wills", "<init>", "()V"⟩, prog_8_method_1_code, 1, (Option.none : Option Jvm.ClassFile.FieldType), 6, 1, false),
  (⟨"LastAsked$Wills", "read", "([II)V"⟩, prog_8_method_2_code, 4, (Option.none : Option Jvm.ClassFile.FieldType), 6, 3, false),
  (⟨"LastAsked$Wills", "latest", "([III)I"⟩, prog_8_method_3_code, 6, (Option.some Jvm.ClassFile.FieldType.int), 6, 3, true),
  (⟨"LastAsked$Wills", "endOf", "(II)I"⟩, prog_8_method_4_code, 6, (Option.some Jvm.ClassFile.FieldType.int), 6, 3, false),
  (⟨"LastAsked$Wills", "between", "(II)I"⟩, prog_8_method_5_code, 6, (Option.some Jvm.ClassFile.FieldType.int), 6, 3, false),
  (⟨"LastAsked$Wills", "untilCat", "(I)I"⟩, prog_8_method_6_code, 5, (Option.some Jvm.ClassFile.FieldType.int), 6, 2, false),
  (⟨"LastAsked$Wills", "comesBack", "(I)Z"⟩, prog_8_method_7_code, 4, (Option.some Jvm.ClassFile.FieldType.boolean), 6, 2, false),
  (⟨"LastAsked", "<init>", "()V"⟩, prog_1_method_1_code, 1, (Option.none : Option Jvm.ClassFile.FieldType), 7, 1, false),
  (⟨"LastAsked", "feed", "(IIIII)I"⟩, prog_1_method_2_code, 6, (Option.some Jvm.ClassFile.FieldType.int), 7, 6, false),
  (⟨"LastAsked", "city", "(I)I"⟩, prog_1_method_3_code, 2, (Option.some Jvm.ClassFile.FieldType.int), 7, 2, false),
  (⟨"LastAsked", "fault", "()I"⟩, prog_1_method_4_code, 1, (Option.some Jvm.ClassFile.FieldType.int), 7, 1, false),
  (⟨"LastAsked", "where", "()I"⟩, prog_1_method_5_code, 1, (Option.some Jvm.ClassFile.FieldType.int), 7, 1, false),
  (⟨"LastAsked", "person", "(II)I"⟩, prog_1_method_6_code, 3, (Option.some Jvm.ClassFile.FieldType.int), 7, 3, false),
  (⟨"LastAsked", "register", "(II)I"⟩, prog_1_method_7_code, 3, (Option.some Jvm.ClassFile.FieldType.int), 7, 3, false),
  (⟨"LastAsked", "heir", "(I)I"⟩, prog_1_method_8_code, 2, (Option.some Jvm.ClassFile.FieldType.int), 7, 2, false),
  (⟨"LastAsked", "heirTo", "(I)I"⟩, prog_1_method_9_code, 2, (Option.some Jvm.ClassFile.FieldType.int), 7, 2, false),
  (⟨"LastAsked", "hopes", "(I)I"⟩, prog_1_method_10_code, 3, (Option.some Jvm.ClassFile.FieldType.int), 7, 2, false),
  (⟨"LastAsked", "cat", "()I"⟩, prog_1_method_11_code, 1, (Option.some Jvm.ClassFile.FieldType.int), 7, 1, false),
  (⟨"LastAsked", "richest", "()I"⟩, prog_1_method_12_code, 1, (Option.some Jvm.ClassFile.FieldType.int), 7, 1, false),
  (⟨"LastAsked", "goesTo", "(II)I"⟩, prog_1_method_13_code, 3, (Option.some Jvm.ClassFile.FieldType.int), 7, 3, false),
  (⟨"LastAsked", "hasThen", "(II)I"⟩, prog_1_method_14_code, 4, (Option.some Jvm.ClassFile.FieldType.int), 7, 3, false),
  (⟨"LastAsked", "catThen", "(I)I"⟩, prog_1_method_15_code, 4, (Option.some Jvm.ClassFile.FieldType.int), 7, 2, false),
  (⟨"LastAsked", "rounds", "()I"⟩, prog_1_method_16_code, 3, (Option.some Jvm.ClassFile.FieldType.int), 7, 1, false),
  (⟨"LastAsked", "worthiest", "()I"⟩, prog_1_method_17_code, 4, (Option.some Jvm.ClassFile.FieldType.int), 7, 1, false)]
def xMs_2 : List xMe := [
  (⟨"LastAsked", "plot", "(II)I"⟩, prog_1_method_18_code, 4, (Option.some Jvm.ClassFile.FieldType.int), 7, 3, false),
  (⟨"LastAsked", "mean", "(IZ)J"⟩, prog_1_method_19_code, 3, (Option.some Jvm.ClassFile.FieldType.long), 7, 3, false),
  (⟨"LastAsked", "odds", "(IIZ)J"⟩, prog_1_method_20_code, 5, (Option.some Jvm.ClassFile.FieldType.long), 7, 4, false),
  (⟨"LastAsked", "passes", "(IIZ)J"⟩, prog_1_method_21_code, 5, (Option.some Jvm.ClassFile.FieldType.long), 7, 4, false),
  (⟨"LastAsked", "catMean", "(Z)J"⟩, prog_1_method_22_code, 5, (Option.some Jvm.ClassFile.FieldType.long), 7, 2, false),
  (⟨"LastAsked", "best", "(II)I"⟩, prog_1_method_23_code, 3, (Option.some Jvm.ClassFile.FieldType.int), 7, 3, false),
  (⟨"LastAsked", "bestMean", "(IIZ)J"⟩, prog_1_method_24_code, 4, (Option.some Jvm.ClassFile.FieldType.long), 7, 4, false),
  (⟨"LastAsked", "tour", "(II)I"⟩, prog_1_method_25_code, 3, (Option.some Jvm.ClassFile.FieldType.int), 7, 3, false),
  (⟨"LastAsked", "tourHours", "(II)I"⟩, prog_1_method_26_code, 3, (Option.some Jvm.ClassFile.FieldType.int), 7, 3, false),
  (⟨"LastAsked", "apart", "(II)I"⟩, prog_1_method_27_code, 4, (Option.some Jvm.ClassFile.FieldType.int), 7, 3, false),
  (⟨"LastAsked", "toAsk", "(I)I"⟩, prog_1_method_28_code, 2, (Option.some Jvm.ClassFile.FieldType.int), 7, 2, false),
  (⟨"LastAsked", "rivals", "(II)I"⟩, prog_1_method_29_code, 7, (Option.some Jvm.ClassFile.FieldType.int), 7, 3, false),
  (⟨"LastAsked", "fits", "()I"⟩, prog_1_method_30_code, 1, (Option.some Jvm.ClassFile.FieldType.int), 7, 1, false),
  (⟨"LastAsked", "fitAt", "(II)I"⟩, prog_1_method_31_code, 4, (Option.some Jvm.ClassFile.FieldType.int), 7, 3, false),
  (⟨"LastAsked", "heirBy", "(II)I"⟩, prog_1_method_32_code, 3, (Option.some Jvm.ClassFile.FieldType.int), 7, 3, false),
  (⟨"LastAsked", "look", "()I"⟩, prog_1_method_33_code, 1, (Option.some Jvm.ClassFile.FieldType.int), 7, 1, false),
  (⟨"LastAsked", "lookLeaves", "()I"⟩, prog_1_method_34_code, 2, (Option.some Jvm.ClassFile.FieldType.int), 7, 1, false),
  (⟨"LastAsked", "judge", "()I"⟩, prog_1_method_35_code, 2, (Option.some Jvm.ClassFile.FieldType.int), 7, 1, false),
  (⟨"LastAsked", "begs", "(IZZZ)I"⟩, prog_1_method_36_code, 5, (Option.some Jvm.ClassFile.FieldType.int), 7, 5, false),
  (⟨"LastAsked", "rests", "(I)I"⟩, prog_1_method_37_code, 4, (Option.some Jvm.ClassFile.FieldType.int), 7, 2, false),
  (⟨"LastAsked", "rest", "(I)I"⟩, prog_1_method_38_code, 3, (Option.some Jvm.ClassFile.FieldType.int), 7, 2, false),
  (⟨"LastAsked", "nights", "(III)I"⟩, prog_1_method_39_code, 4, (Option.some Jvm.ClassFile.FieldType.int), 7, 4, false),
  (⟨"LastAsked", "lives", "(II)I"⟩, prog_1_method_40_code, 3, (Option.some Jvm.ClassFile.FieldType.int), 7, 3, false),
  (⟨"LastAsked", "firstCat", "(II)I"⟩, prog_1_method_41_code, 4, (Option.some Jvm.ClassFile.FieldType.int), 7, 3, false),
  (⟨"LastAsked", "ask", "(II)I"⟩, prog_1_method_42_code, 3, (Option.some Jvm.ClassFile.FieldType.int), 7, 3, false),
  (⟨"LastAsked", "die", "(I)I"⟩, prog_1_method_43_code, 3, (Option.some Jvm.ClassFile.FieldType.int), 7, 2, false),
  (⟨"LastAsked", "night", "()I"⟩, prog_1_method_44_code, 1, (Option.some Jvm.ClassFile.FieldType.int), 7, 1, false),
  (⟨"LastAsked", "seed", "(I)Z"⟩, prog_1_method_45_code, 2, (Option.some Jvm.ClassFile.FieldType.boolean), 7, 2, false),
  (⟨"LastAsked", "undo", "()Z"⟩, prog_1_method_46_code, 1, (Option.some Jvm.ClassFile.FieldType.boolean), 7, 1, false),
  (⟨"LastAsked", "image", "()I"⟩, prog_1_method_47_code, 1, (Option.some Jvm.ClassFile.FieldType.int), 7, 1, false),
  (⟨"LastAsked", "back", "(I)Z"⟩, prog_1_method_48_code, 2, (Option.some Jvm.ClassFile.FieldType.boolean), 7, 2, false),
  (⟨"LastAsked", "led", "(I)I"⟩, prog_1_method_49_code, 4, (Option.some Jvm.ClassFile.FieldType.int), 7, 2, false),
  (⟨"LastAsked", "size", "(I)I"⟩, prog_1_method_50_code, 2, (Option.some Jvm.ClassFile.FieldType.int), 7, 2, false),
  (⟨"LastAsked", "trouble", "()I"⟩, prog_1_method_51_code, 1, (Option.some Jvm.ClassFile.FieldType.int), 7, 1, false),
  (⟨"LastAsked", "refused", "(I)Z"⟩, prog_1_method_52_code, 2, (Option.some Jvm.ClassFile.FieldType.boolean), 7, 2, false),
  (⟨"LastAsked", "isCity", "()Z"⟩, prog_1_method_53_code, 1, (Option.some Jvm.ClassFile.FieldType.boolean), 7, 1, false),
  (⟨"LastAsked", "isPerson", "(I)Z"⟩, prog_1_method_54_code, 2, (Option.some Jvm.ClassFile.FieldType.boolean), 7, 2, false),
  (⟨"LastAsked", "areTwo", "(II)Z"⟩, prog_1_method_55_code, 3, (Option.some Jvm.ClassFile.FieldType.boolean), 7, 3, false),
  (⟨"LastAsked", "isLivingSet", "(I)Z"⟩, prog_1_method_56_code, 2, (Option.some Jvm.ClassFile.FieldType.boolean), 7, 2, false),
  (⟨"LastAsked", "livesOr", "(I)I"⟩, prog_1_method_57_code, 2, (Option.some Jvm.ClassFile.FieldType.int), 7, 2, false)]
def xMs_3 : List xMe := [
  (⟨"LastAsked", "seekerOr", "(IZ)I"⟩, prog_1_method_58_code, 3, (Option.some Jvm.ClassFile.FieldType.int), 7, 3, false),
  (⟨"LastAsked", "shameOr", "(I)I"⟩, prog_1_method_59_code, 2, (Option.some Jvm.ClassFile.FieldType.int), 7, 2, false),
  (⟨"LastAsked", "drawsOr", "(II)I"⟩, prog_1_method_60_code, 4, (Option.some Jvm.ClassFile.FieldType.int), 7, 3, false),
  (⟨"LastAsked", "askTrouble", "(II)I"⟩, prog_1_method_61_code, 3, (Option.some Jvm.ClassFile.FieldType.int), 7, 3, false),
  (⟨"LastAsked", "in", "(II)Z"⟩, prog_1_method_62_code, 2, (Option.some Jvm.ClassFile.FieldType.boolean), 7, 2, true),
  (⟨"LastAsked", "pair", "(II)I"⟩, prog_1_method_63_code, 2, (Option.some Jvm.ClassFile.FieldType.int), 7, 2, true),
  (⟨"LastAsked", "askable", "(I)I"⟩, prog_1_method_64_code, 4, (Option.some Jvm.ClassFile.FieldType.int), 7, 2, false),
  (⟨"LastAsked", "askers", "(I)I"⟩, prog_1_method_65_code, 4, (Option.some Jvm.ClassFile.FieldType.int), 7, 2, false),
  (⟨"LastAsked", "richestOf", "(I)I"⟩, prog_1_method_66_code, 5, (Option.some Jvm.ClassFile.FieldType.int), 7, 2, false),
  (⟨"LastAsked", "willsNow", "()LLastAsked$Wills;"⟩, prog_1_method_67_code, 1, (Option.some (Jvm.ClassFile.FieldType.object "LastAsked$Wills")), 7, 1, false),
  (⟨"LastAsked", "heirsTo", "(I)I"⟩, prog_1_method_68_code, 4, (Option.some Jvm.ClassFile.FieldType.int), 7, 2, false),
  (⟨"LastAsked", "hasBehind", "(II)I"⟩, prog_1_method_69_code, 5, (Option.some Jvm.ClassFile.FieldType.int), 7, 3, false),
  (⟨"LastAsked", "likely", "(II)J"⟩, prog_1_method_70_code, 6, (Option.some Jvm.ClassFile.FieldType.long), 7, 3, false),
  (⟨"LastAsked", "meanOf", "(ILLastAsked$State;)J"⟩, prog_1_method_71_code, 7, (Option.some Jvm.ClassFile.FieldType.long), 7, 3, false),
  (⟨"LastAsked", "likelyToHave", "(II)J"⟩, prog_1_method_72_code, 6, (Option.some Jvm.ClassFile.FieldType.long), 7, 3, false),
  (⟨"LastAsked", "term", "(JZ)J"⟩, prog_1_method_73_code, 5, (Option.some Jvm.ClassFile.FieldType.long), 7, 2, true),
  (⟨"LastAsked", "commonDivisor", "(JJ)J"⟩, prog_1_method_74_code, 11, (Option.some Jvm.ClassFile.FieldType.long), 7, 2, true),
  (⟨"LastAsked", "bestRow", "(II)I"⟩, prog_1_method_75_code, 11, (Option.some Jvm.ClassFile.FieldType.int), 7, 3, false),
  (⟨"LastAsked", "mayBeFirst", "(II)Z"⟩, prog_1_method_76_code, 5, (Option.some Jvm.ClassFile.FieldType.boolean), 7, 2, true),
  (⟨"LastAsked", "meanByRow", "(II)J"⟩, prog_1_method_77_code, 5, (Option.some Jvm.ClassFile.FieldType.long), 7, 3, false),
  (⟨"LastAsked", "bestTour", "(II)I"⟩, prog_1_method_78_code, 11, (Option.some Jvm.ClassFile.FieldType.int), 7, 3, false),
  (⟨"LastAsked", "meanByTour", "(II)J"⟩, prog_1_method_79_code, 4, (Option.some Jvm.ClassFile.FieldType.long), 7, 3, false),
  (⟨"LastAsked", "payoff", "(IZZZ)I"⟩, prog_1_method_80_code, 4, (Option.some Jvm.ClassFile.FieldType.int), 7, 4, true),
  (⟨"LastAsked", "isRest", "(IZZ)Z"⟩, prog_1_method_81_code, 3, (Option.some Jvm.ClassFile.FieldType.boolean), 7, 3, true),
  (⟨"LastAsked", "sleep", "(II)V"⟩, prog_1_method_82_code, 4, (Option.none : Option Jvm.ClassFile.FieldType), 7, 3, false),
  (⟨"LastAsked", "passNight", "(LLastAsked$State;)I"⟩, prog_1_method_83_code, 4, (Option.some Jvm.ClassFile.FieldType.int), 7, 2, false),
  (⟨"LastAskedModel$City", "<init>", "()V"⟩, prog_11_method_1_code, 2, (Option.none : Option Jvm.ClassFile.FieldType), 8, 1, false),
  (⟨"LastAskedModel$City", "find", "(J)I"⟩, prog_11_method_2_code, 4, (Option.some Jvm.ClassFile.FieldType.int), 8, 2, false),
  (⟨"LastAskedModel$City", "mayAsk", "(II)Z"⟩, prog_11_method_3_code, 3, (Option.some Jvm.ClassFile.FieldType.boolean), 8, 3, false),
  (⟨"LastAskedModel", "<init>", "()V"⟩, prog_10_method_1_code, 1, (Option.none : Option Jvm.ClassFile.FieldType), 9, 1, false),
  (⟨"LastAskedModel", "thrown", "()I"⟩, prog_10_method_2_code, 1, (Option.some Jvm.ClassFile.FieldType.int), 9, 1, false),
  (⟨"LastAskedModel", "refused", "(I)I"⟩, prog_10_method_3_code, 2, (Option.some Jvm.ClassFile.FieldType.int), 9, 2, false),
  (⟨"LastAskedModel", "lost", "(I)I"⟩, prog_10_method_4_code, 2, (Option.some Jvm.ClassFile.FieldType.int), 9, 2, false),
  (⟨"LastAskedModel", "denied", "(I)Z"⟩, prog_10_method_5_code, 2, (Option.some Jvm.ClassFile.FieldType.boolean), 9, 2, false),
  (⟨"LastAskedModel", "good", "(I)I"⟩, prog_10_method_6_code, 2, (Option.some Jvm.ClassFile.FieldType.int), 9, 2, false),
  (⟨"LastAskedModel", "granted", "()Z"⟩, prog_10_method_7_code, 1, (Option.some Jvm.ClassFile.FieldType.boolean), 9, 1, false),
  (⟨"LastAskedModel", "in", "(III)Z"⟩, prog_10_method_8_code, 3, (Option.some Jvm.ClassFile.FieldType.boolean), 9, 3, true),
  (⟨"LastAskedModel", "bit", "(II)Z"⟩, prog_10_method_9_code, 2, (Option.some Jvm.ClassFile.FieldType.boolean), 9, 2, true),
  (⟨"LastAskedModel", "bits", "(I)I"⟩, prog_10_method_10_code, 3, (Option.some Jvm.ClassFile.FieldType.int), 9, 1, true),
  (⟨"LastAskedModel", "common", "(JJ)J"⟩, prog_10_method_11_code, 10, (Option.some Jvm.ClassFile.FieldType.long), 9, 2, true)]
def xMs_4 : List xMe := [
  (⟨"LastAskedModel", "fraction", "(JJZ)J"⟩, prog_10_method_12_code, 6, (Option.some Jvm.ClassFile.FieldType.long), 9, 4, false),
  (⟨"LastAskedModel", "byteAt", "(I)I"⟩, prog_10_method_13_code, 2, (Option.some Jvm.ClassFile.FieldType.int), 9, 2, false),
  (⟨"LastAskedModel", "isLetter", "(I)Z"⟩, prog_10_method_14_code, 1, (Option.some Jvm.ClassFile.FieldType.boolean), 9, 1, true),
  (⟨"LastAskedModel", "isDigit", "(I)Z"⟩, prog_10_method_15_code, 1, (Option.some Jvm.ClassFile.FieldType.boolean), 9, 1, true),
  (⟨"LastAskedModel", "packed", "(Ljava/lang/String;)J"⟩, prog_10_method_16_code, 4, (Option.some Jvm.ClassFile.FieldType.long), 9, 1, true),
  (⟨"LastAskedModel", "goesOn", "()V"⟩, prog_10_method_17_code, 3, (Option.none : Option Jvm.ClassFile.FieldType), 9, 1, false),
  (⟨"LastAskedModel", "flaw", "(I)V"⟩, prog_10_method_18_code, 2, (Option.none : Option Jvm.ClassFile.FieldType), 9, 2, false),
  (⟨"LastAskedModel", "isWord", "(Ljava/lang/String;)Z"⟩, prog_10_method_19_code, 2, (Option.some Jvm.ClassFile.FieldType.boolean), 9, 2, false),
  (⟨"LastAskedModel", "eatsSemicolon", "()Z"⟩, prog_10_method_20_code, 2, (Option.some Jvm.ClassFile.FieldType.boolean), 9, 1, false),
  (⟨"LastAskedModel", "readPart", "(Ljava/lang/String;II)I"⟩, prog_10_method_21_code, 5, (Option.some Jvm.ClassFile.FieldType.int), 9, 4, false),
  (⟨"LastAskedModel", "isName", "()Z"⟩, prog_10_method_22_code, 1, (Option.some Jvm.ClassFile.FieldType.boolean), 9, 1, false),
  (⟨"LastAskedModel", "lineBegins", "(II)V"⟩, prog_10_method_23_code, 3, (Option.none : Option Jvm.ClassFile.FieldType), 9, 3, false),
  (⟨"LastAskedModel", "personAtHand", "()I"⟩, prog_10_method_24_code, 2, (Option.some Jvm.ClassFile.FieldType.int), 9, 1, false),
  (⟨"LastAskedModel", "readAll", "()V"⟩, prog_10_method_25_code, 2, (Option.none : Option Jvm.ClassFile.FieldType), 9, 1, false),
  (⟨"LastAskedModel", "readLine", "()V"⟩, prog_10_method_26_code, 1, (Option.none : Option Jvm.ClassFile.FieldType), 9, 1, false),
  (⟨"LastAskedModel", "readCity", "()V"⟩, prog_10_method_27_code, 3, (Option.none : Option Jvm.ClassFile.FieldType), 9, 1, false),
  (⟨"LastAskedModel", "readPerson", "()V"⟩, prog_10_method_28_code, 7, (Option.none : Option Jvm.ClassFile.FieldType), 9, 1, false),
  (⟨"LastAskedModel", "readNear", "()V"⟩, prog_10_method_29_code, 3, (Option.none : Option Jvm.ClassFile.FieldType), 9, 1, false),
  (⟨"LastAskedModel", "readPair", "()I"⟩, prog_10_method_30_code, 2, (Option.some Jvm.ClassFile.FieldType.int), 9, 1, false),
  (⟨"LastAskedModel", "readAsked", "()V"⟩, prog_10_method_31_code, 3, (Option.none : Option Jvm.ClassFile.FieldType), 9, 1, false),
  (⟨"LastAskedModel", "readHeard", "()V"⟩, prog_10_method_32_code, 4, (Option.none : Option Jvm.ClassFile.FieldType), 9, 1, false),
  (⟨"LastAskedModel", "readWent", "()V"⟩, prog_10_method_33_code, 3, (Option.none : Option Jvm.ClassFile.FieldType), 9, 1, false),
  (⟨"LastAskedModel", "feed", "(IIIII)I"⟩, prog_10_method_34_code, 8, (Option.some Jvm.ClassFile.FieldType.int), 9, 6, false),
  (⟨"LastAskedModel", "city", "(I)I"⟩, prog_10_method_35_code, 3, (Option.some Jvm.ClassFile.FieldType.int), 9, 2, false),
  (⟨"LastAskedModel", "fault", "()I"⟩, prog_10_method_36_code, 1, (Option.some Jvm.ClassFile.FieldType.int), 9, 1, false),
  (⟨"LastAskedModel", "where", "()I"⟩, prog_10_method_37_code, 1, (Option.some Jvm.ClassFile.FieldType.int), 9, 1, false),
  (⟨"LastAskedModel", "isPerson", "(I)Z"⟩, prog_10_method_38_code, 2, (Option.some Jvm.ClassFile.FieldType.boolean), 9, 2, false),
  (⟨"LastAskedModel", "areTwo", "(II)Z"⟩, prog_10_method_39_code, 3, (Option.some Jvm.ClassFile.FieldType.boolean), 9, 3, false),
  (⟨"LastAskedModel", "works", "()V"⟩, prog_10_method_40_code, 2, (Option.none : Option Jvm.ClassFile.FieldType), 9, 1, false),
  (⟨"LastAskedModel", "asTold", "()V"⟩, prog_10_method_41_code, 2, (Option.none : Option Jvm.ClassFile.FieldType), 9, 1, false),
  (⟨"LastAskedModel", "isLiving", "(I)Z"⟩, prog_10_method_42_code, 2, (Option.some Jvm.ClassFile.FieldType.boolean), 9, 2, false),
  (⟨"LastAskedModel", "asked", "(II)I"⟩, prog_10_method_43_code, 3, (Option.some Jvm.ClassFile.FieldType.int), 9, 3, false),
  (⟨"LastAskedModel", "heirOf", "(I)I"⟩, prog_10_method_44_code, 4, (Option.some Jvm.ClassFile.FieldType.int), 9, 2, false),
  (⟨"LastAskedModel", "heirs", "()V"⟩, prog_10_method_45_code, 2, (Option.none : Option Jvm.ClassFile.FieldType), 9, 1, false),
  (⟨"LastAskedModel", "goes", "(II)I"⟩, prog_10_method_46_code, 5, (Option.some Jvm.ClassFile.FieldType.int), 9, 3, false),
  (⟨"LastAskedModel", "dying", "(I)V"⟩, prog_10_method_47_code, 4, (Option.none : Option Jvm.ClassFile.FieldType), 9, 2, false),
  (⟨"LastAskedModel", "dieAll", "(IZ)V"⟩, prog_10_method_48_code, 4, (Option.none : Option Jvm.ClassFile.FieldType), 9, 3, false),
  (⟨"LastAskedModel", "worksWithHeirs", "()V"⟩, prog_10_method_49_code, 1, (Option.none : Option Jvm.ClassFile.FieldType), 9, 1, false),
  (⟨"LastAskedModel", "near", "(I)I"⟩, prog_10_method_50_code, 2, (Option.some Jvm.ClassFile.FieldType.int), 9, 2, false),
  (⟨"LastAskedModel", "canAsk", "(I)I"⟩, prog_10_method_51_code, 4, (Option.some Jvm.ClassFile.FieldType.int), 9, 2, false)]
def xMs_5 : List xMe := [
  (⟨"LastAskedModel", "canBeAsked", "(I)I"⟩, prog_10_method_52_code, 4, (Option.some Jvm.ClassFile.FieldType.int), 9, 2, false),
  (⟨"LastAskedModel", "person", "(II)I"⟩, prog_10_method_53_code, 3, (Option.some Jvm.ClassFile.FieldType.int), 9, 3, false),
  (⟨"LastAskedModel", "register", "(II)I"⟩, prog_10_method_54_code, 4, (Option.some Jvm.ClassFile.FieldType.int), 9, 3, false),
  (⟨"LastAskedModel", "refusesLiving", "(I)I"⟩, prog_10_method_55_code, 2, (Option.some Jvm.ClassFile.FieldType.int), 9, 2, false),
  (⟨"LastAskedModel", "heir", "(I)I"⟩, prog_10_method_56_code, 3, (Option.some Jvm.ClassFile.FieldType.int), 9, 2, false),
  (⟨"LastAskedModel", "inheritsOf", "(I)I"⟩, prog_10_method_57_code, 4, (Option.some Jvm.ClassFile.FieldType.int), 9, 2, false),
  (⟨"LastAskedModel", "heirTo", "(I)I"⟩, prog_10_method_58_code, 2, (Option.some Jvm.ClassFile.FieldType.int), 9, 2, false),
  (⟨"LastAskedModel", "hopes", "(I)I"⟩, prog_10_method_59_code, 3, (Option.some Jvm.ClassFile.FieldType.int), 9, 2, false),
  (⟨"LastAskedModel", "cat", "()I"⟩, prog_10_method_60_code, 1, (Option.some Jvm.ClassFile.FieldType.int), 9, 1, false),
  (⟨"LastAskedModel", "richest", "()I"⟩, prog_10_method_61_code, 3, (Option.some Jvm.ClassFile.FieldType.int), 9, 1, false),
  (⟨"LastAskedModel", "canDie", "(I)Z"⟩, prog_10_method_62_code, 2, (Option.some Jvm.ClassFile.FieldType.boolean), 9, 2, false),
  (⟨"LastAskedModel", "goesTo", "(II)I"⟩, prog_10_method_63_code, 3, (Option.some Jvm.ClassFile.FieldType.int), 9, 3, false),
  (⟨"LastAskedModel", "hasThen", "(II)I"⟩, prog_10_method_64_code, 4, (Option.some Jvm.ClassFile.FieldType.int), 9, 3, false),
  (⟨"LastAskedModel", "catThen", "(I)I"⟩, prog_10_method_65_code, 2, (Option.some Jvm.ClassFile.FieldType.int), 9, 2, false),
  (⟨"LastAskedModel", "rounds", "()I"⟩, prog_10_method_66_code, 5, (Option.some Jvm.ClassFile.FieldType.int), 9, 1, false),
  (⟨"LastAskedModel", "worthiest", "()I"⟩, prog_10_method_67_code, 4, (Option.some Jvm.ClassFile.FieldType.int), 9, 1, false),
  (⟨"LastAskedModel", "plot", "(II)I"⟩, prog_10_method_68_code, 5, (Option.some Jvm.ClassFile.FieldType.int), 9, 3, false),
  (⟨"LastAskedModel", "partOf", "(I)J"⟩, prog_10_method_69_code, 5, (Option.some Jvm.ClassFile.FieldType.long), 9, 2, false),
  (⟨"LastAskedModel", "wholeOf", "()V"⟩, prog_10_method_70_code, 2, (Option.none : Option Jvm.ClassFile.FieldType), 9, 1, false),
  (⟨"LastAskedModel", "meanOf", "(I)J"⟩, prog_10_method_71_code, 7, (Option.some Jvm.ClassFile.FieldType.long), 9, 2, false),
  (⟨"LastAskedModel", "mean", "(IZ)J"⟩, prog_10_method_72_code, 5, (Option.some Jvm.ClassFile.FieldType.long), 9, 3, false),
  (⟨"LastAskedModel", "odds", "(IIZ)J"⟩, prog_10_method_73_code, 7, (Option.some Jvm.ClassFile.FieldType.long), 9, 4, false),
  (⟨"LastAskedModel", "passes", "(IIZ)J"⟩, prog_10_method_74_code, 7, (Option.some Jvm.ClassFile.FieldType.long), 9, 4, false),
  (⟨"LastAskedModel", "catMean", "(Z)J"⟩, prog_10_method_75_code, 5, (Option.some Jvm.ClassFile.FieldType.long), 9, 2, false),
  (⟨"LastAskedModel", "asks", "(II)V"⟩, prog_10_method_76_code, 4, (Option.none : Option Jvm.ClassFile.FieldType), 9, 3, false),
  (⟨"LastAskedModel", "bestRow", "(II)I"⟩, prog_10_method_77_code, 13, (Option.some Jvm.ClassFile.FieldType.int), 9, 3, false),
  (⟨"LastAskedModel", "refusesNumber", "(IIII)I"⟩, prog_10_method_78_code, 5, (Option.some Jvm.ClassFile.FieldType.int), 9, 5, false),
  (⟨"LastAskedModel", "best", "(II)I"⟩, prog_10_method_79_code, 4, (Option.some Jvm.ClassFile.FieldType.int), 9, 3, false),
  (⟨"LastAskedModel", "bestMean", "(IIZ)J"⟩, prog_10_method_80_code, 5, (Option.some Jvm.ClassFile.FieldType.long), 9, 4, false),
  (⟨"LastAskedModel", "hoursBy", "(III)I"⟩, prog_10_method_81_code, 7, (Option.some Jvm.ClassFile.FieldType.int), 9, 4, false),
  (⟨"LastAskedModel", "spreads", "(II)V"⟩, prog_10_method_82_code, 4, (Option.none : Option Jvm.ClassFile.FieldType), 9, 3, false),
  (⟨"LastAskedModel", "bestTour", "(II)I"⟩, prog_10_method_83_code, 11, (Option.some Jvm.ClassFile.FieldType.int), 9, 3, false),
  (⟨"LastAskedModel", "tour", "(II)I"⟩, prog_10_method_84_code, 4, (Option.some Jvm.ClassFile.FieldType.int), 9, 3, false),
  (⟨"LastAskedModel", "tourHours", "(II)I"⟩, prog_10_method_85_code, 4, (Option.some Jvm.ClassFile.FieldType.int), 9, 3, false),
  (⟨"LastAskedModel", "apart", "(II)I"⟩, prog_10_method_86_code, 4, (Option.some Jvm.ClassFile.FieldType.int), 9, 3, false),
  (⟨"LastAskedModel", "toAsk", "(I)I"⟩, prog_10_method_87_code, 5, (Option.some Jvm.ClassFile.FieldType.int), 9, 2, false),
  (⟨"LastAskedModel", "rivals", "(II)I"⟩, prog_10_method_88_code, 5, (Option.some Jvm.ClassFile.FieldType.int), 9, 3, false),
  (⟨"LastAskedModel", "low", "(I)I"⟩, prog_10_method_89_code, 3, (Option.some Jvm.ClassFile.FieldType.int), 9, 2, false),
  (⟨"LastAskedModel", "many", "(I)I"⟩, prog_10_method_90_code, 2, (Option.some Jvm.ClassFile.FieldType.int), 9, 2, false),
  (⟨"LastAskedModel", "wrong", "()I"⟩, prog_10_method_91_code, 2, (Option.some Jvm.ClassFile.FieldType.int), 9, 1, false)]
def xMs_6 : List xMe := [
  (⟨"LastAskedModel", "fitting", "(II)Z"⟩, prog_10_method_92_code, 8, (Option.some Jvm.ClassFile.FieldType.boolean), 9, 3, false),
  (⟨"LastAskedModel", "fits", "()I"⟩, prog_10_method_93_code, 1, (Option.some Jvm.ClassFile.FieldType.int), 9, 1, false),
  (⟨"LastAskedModel", "fitAt", "(II)I"⟩, prog_10_method_94_code, 3, (Option.some Jvm.ClassFile.FieldType.int), 9, 3, false),
  (⟨"LastAskedModel", "heirBy", "(II)I"⟩, prog_10_method_95_code, 3, (Option.some Jvm.ClassFile.FieldType.int), 9, 3, false),
  (⟨"LastAskedModel", "looks", "()I"⟩, prog_10_method_96_code, 5, (Option.some Jvm.ClassFile.FieldType.int), 9, 1, false),
  (⟨"LastAskedModel", "look", "()I"⟩, prog_10_method_97_code, 1, (Option.some Jvm.ClassFile.FieldType.int), 9, 1, false),
  (⟨"LastAskedModel", "lookLeaves", "()I"⟩, prog_10_method_98_code, 1, (Option.some Jvm.ClassFile.FieldType.int), 9, 1, false),
  (⟨"LastAskedModel", "judge", "()I"⟩, prog_10_method_99_code, 1, (Option.some Jvm.ClassFile.FieldType.int), 9, 1, false),
  (⟨"LastAskedModel", "rich", "(IZZ)I"⟩, prog_10_method_100_code, 3, (Option.some Jvm.ClassFile.FieldType.int), 9, 3, true),
  (⟨"LastAskedModel", "beggar", "(ZZ)I"⟩, prog_10_method_101_code, 2, (Option.some Jvm.ClassFile.FieldType.int), 9, 2, true),
  (⟨"LastAskedModel", "refusesShame", "(I)I"⟩, prog_10_method_102_code, 2, (Option.some Jvm.ClassFile.FieldType.int), 9, 2, false),
  (⟨"LastAskedModel", "begs", "(IZZZ)I"⟩, prog_10_method_103_code, 6, (Option.some Jvm.ClassFile.FieldType.int), 9, 5, false),
  (⟨"LastAskedModel", "isRest", "(II)Z"⟩, prog_10_method_104_code, 4, (Option.some Jvm.ClassFile.FieldType.boolean), 9, 2, true),
  (⟨"LastAskedModel", "rests", "(I)I"⟩, prog_10_method_105_code, 5, (Option.some Jvm.ClassFile.FieldType.int), 9, 2, false),
  (⟨"LastAskedModel", "rest", "(I)I"⟩, prog_10_method_106_code, 4, (Option.some Jvm.ClassFile.FieldType.int), 9, 2, false),
  (⟨"LastAskedModel", "aNight", "(Z)I"⟩, prog_10_method_107_code, 4, (Option.some Jvm.ClassFile.FieldType.int), 9, 2, false),
  (⟨"LastAskedModel", "nightsAll", "(II)V"⟩, prog_10_method_108_code, 4, (Option.none : Option Jvm.ClassFile.FieldType), 9, 3, false),
  (⟨"LastAskedModel", "refusesSeed", "(ZII)I"⟩, prog_10_method_109_code, 4, (Option.some Jvm.ClassFile.FieldType.int), 9, 4, false),
  (⟨"LastAskedModel", "nights", "(III)I"⟩, prog_10_method_110_code, 5, (Option.some Jvm.ClassFile.FieldType.int), 9, 4, false),
  (⟨"LastAskedModel", "lives", "(II)I"⟩, prog_10_method_111_code, 4, (Option.some Jvm.ClassFile.FieldType.int), 9, 3, false),
  (⟨"LastAskedModel", "firstCat", "(II)I"⟩, prog_10_method_112_code, 4, (Option.some Jvm.ClassFile.FieldType.int), 9, 3, false),
  (⟨"LastAskedModel", "remembers", "()V"⟩, prog_10_method_113_code, 2, (Option.none : Option Jvm.ClassFile.FieldType), 9, 1, false),
  (⟨"LastAskedModel", "stays", "()V"⟩, prog_10_method_114_code, 2, (Option.none : Option Jvm.ClassFile.FieldType), 9, 1, false),
  (⟨"LastAskedModel", "ask", "(II)I"⟩, prog_10_method_115_code, 4, (Option.some Jvm.ClassFile.FieldType.int), 9, 3, false),
  (⟨"LastAskedModel", "die", "(I)I"⟩, prog_10_method_116_code, 4, (Option.some Jvm.ClassFile.FieldType.int), 9, 2, false),
  (⟨"LastAskedModel", "night", "()I"⟩, prog_10_method_117_code, 2, (Option.some Jvm.ClassFile.FieldType.int), 9, 1, false),
  (⟨"LastAskedModel", "seed", "(I)Z"⟩, prog_10_method_118_code, 2, (Option.some Jvm.ClassFile.FieldType.boolean), 9, 2, false),
  (⟨"LastAskedModel", "undo", "()Z"⟩, prog_10_method_119_code, 2, (Option.some Jvm.ClassFile.FieldType.boolean), 9, 1, false),
  (⟨"LastAskedModel", "image", "()I"⟩, prog_10_method_120_code, 2, (Option.some Jvm.ClassFile.FieldType.int), 9, 1, false),
  (⟨"LastAskedModel", "back", "(I)Z"⟩, prog_10_method_121_code, 3, (Option.some Jvm.ClassFile.FieldType.boolean), 9, 2, false),
  (⟨"LastAskedModel", "led", "(I)I"⟩, prog_10_method_122_code, 4, (Option.some Jvm.ClassFile.FieldType.int), 9, 2, false),
  (⟨"LastAskedModel", "size", "(I)I"⟩, prog_10_method_123_code, 2, (Option.some Jvm.ClassFile.FieldType.int), 9, 2, false),
  (⟨"LastAskedModel", "trouble", "()I"⟩, prog_10_method_124_code, 1, (Option.some Jvm.ClassFile.FieldType.int), 9, 1, false),
  (⟨"java/lang/Integer", "bitCount", "(I)I"⟩, prog_16_method_49_code, 1, (Option.some Jvm.ClassFile.FieldType.int), 10, 1, true)]
def xMs : List xMe := xMs_0 ++ (xMs_1 ++ (xMs_2 ++ (xMs_3 ++ (xMs_4 ++ (xMs_5 ++ (xMs_6))))))
def xE (k : Nat) : xMe := xMs.getD k (⟨"", "", ""⟩, .empty, 0, none, 0, 0, false)
def x_meP (e : xMe) : Prop := Cond.code e.1 e.2.1 e.2.2.1 e.2.2.2.1 ∈ lw_tbl ∧ Cond.initialized e.1.cls ∈ lw_tbl ∧ (e.2.2.2.2.2.2 = true → Cond.static e.1 ∈ lw_tbl) ∧ (e.2.2.2.2.2.2 = false → Cond.instanceMethod e.1 ∈ lw_tbl ∧ (e.1.name = "<init>" ∨ Cond.selects e.1.cls e.1 e.1 ∈ lw_tbl)) ∧ plainName e.1.cls = true ∧ e.1.cls = xR e.2.2.2.2.1 ∧
  (e.1.cls ≠ "java/lang/invoke/MethodHandle" ∧ e.1.cls ≠ "java/lang/invoke/VarHandle" ∧ (parseMethodDescriptor e.1.desc).map (fun d => d.parameters.length + (if e.2.2.2.2.2.2 then 0 else 1)) = some e.2.2.2.2.2.1) ∧ e.2.2.1 ≤ 23 ∧ (e.1.name = "<init>" → e.2.2.2.1 = none)
theorem x_t {w : Cond} (i : Nat) (h : tables_1[i]? = some w) : w ∈ lw_tbl := List.mem_append_right _ (List.mem_of_getElem? h)
theorem x_s {w : Cond} (i : Nat) (h : (k2_sels lw_privs)[i]? = some w) : w ∈ lw_tbl := List.mem_append_left _ (List.mem_of_getElem? h)
