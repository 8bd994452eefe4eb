/-! THE LAW: its loop -/
set_option maxRecDepth 100000 in
theorem z_sw : decode code 40 = .ok (.tableswitch 1834 0 49 #[216, 289, 314, 327, 340, 377, 414, 439, 464, 489, 502, 515, 552, 589, 614, 627, 640, 677, 731, 797, 863, 905, 942, 1008, 1045, 1082, 1119, 1144, 1181, 1194, 1231, 1268, 1281, 1294, 1307, 1416, 1441, 1466, 1515, 1552, 1589, 1626, 1651, 1664, 1689, 1702, 1715, 1740, 1796, 1821], 216) := by decide +kernel
theorem z_i64 : ∀ n : Nat, n < 64 → (nI n).toInt = (n : Int) := by decide +kernel
theorem z_sub6 : ∀ n : Nat, n < 6 → (Int32.ofNat n - 6).toInt < 0 := by decide +kernel
theorem z_le {L j : Nat} (hL : L ≤ 3072) (hj : j ≤ 512) : (Int32.ofNat L - 6 < nI (6 * j)) ↔ L < 6 * j + 6 := by
  rcases Nat.lt_or_ge L 6 with h | h
  · refine ⟨fun _ => by omega, fun _ => ?_⟩
    have h1 := z_sub6 L h
    have h2 := nI_toInt (n := 6 * j) (by omega)
    rw [Int32.lt_iff_toInt_lt, h2]
    omega
  · have h1 : Int32.ofNat L - 6 = nI (L - 6) := by
      have h2 := nI_ad (L - 6) 6
      rw [show L - 6 + 6 = L by omega] at h2
      have h3 : Int32.ofNat L = nI (L - 6) + 6 := h2.symm
      rw [h3, Int32.add_sub_cancel]
    rw [h1, nI_ltI (by omega) (by omega)]
    omega
section ZL
variable {p : Program} {l : Launch} {e : Env} {s : State} {m : MethodId} {below : List Frame} {meth : Method} {c : Code} {Q : State → Prop} {dd : va_G} {cy : Nat → ClassId} {z : Nat} {sa : UInt32 → Nat} {av : Nat → Nat} {b L : Nat} {xs : Nat → Int32} {i : Int32} {j : Nat} {σ : xM}
theorem z_in {n : Nat} {off : Int} {tgt : Nat} {H : Heap} {locs : List Loc} {ls : Array Slot} {cells slots : Nat} {R : Room} {args : Array Value} (hx : p.tables.exec = Jvm.exec) (hb : c.code = code) (hn : n < 50) (ho : (#[216, 289, 314, 327, 340, 377, 414, 439, 464, 489, 502, 515, 552, 589, 614, 627, 640, 677, 731, 797, 863, 905, 942, 1008, 1045, 1082, 1119, 1144, 1181, 1194, 1231, 1268, 1281, 1294, 1307, 1416, 1441, 1466, 1515, 1552, 1589, 1626, 1651, 1664, 1689, 1702, 1715, 1740, 1796, 1821] : Array Int)[n]? = some off) (ht : ((40 : Nat) : Int) + off = (tgt : Int)) (k : W p l e R s m args below meth c H locs cells slots Q (F0 m tgt ls [])) : W p l e R s m args below meth c H locs cells slots Q (F0 m 40 ls [.int (nI n)]) := by
  have h1 := z_i64 n (by omega)
  exact lv_tableIn hx hb (off := off) (tgt := tgt) z_sw (by rw [h1]; omega) (by rw [h1]; omega) (by rw [h1]; exact ho) ht k
theorem z_step (C : GC p l s m c dd cy z sa av b L xs) (hW : Wd σ) (hO : gO σ) (hcap : mN σ + 12 ≤ 601024 ∧ mU σ + 98 ≤ 7293034) (hj : j + 5 < L) (kend : ∀ υ, gN σ υ → lW p l e s m below meth c Q dd cy z sa b [] (nI j) 1874 [] υ) : lW p l e s m below meth c Q dd cy z sa b [] (nI j) 33 [] σ := by
  intro ls H locs hl hP hS
  have C0 := C
  obtain ⟨⟨hx, hb, hml, hown, hts, hK, hZ, hZs, hz⟩, hX, hbl, hlt, hL⟩ := C
  refine lv_aload_n hx hb (i := 0) (ld0 19 rfl) rfl (lv_at hl 4 rfl) ?_
  refine lv_iload hx hb (ld0 20 rfl) (lv_at hl 0 rfl) ?_
  refine va_sld hx hb hX hbl (fun h => by have h : z ≤ b := h; omega) hS (vp_in_nI (by omega) (by omega)) (ld0 21 rfl) ?_
  rw [nI_clamp (by omega)]
  refine lv_bipush hx hb (v := 63) (ld0 22 rfl) (by decide) ?_
  refine lv_iand hx hb (ld0 23 rfl) ?_
  obtain ⟨k, hk, ek⟩ := pk_andE (xs j) (m := 63) 6 (by decide)
  rw [ek]
  clear ek
  match k, hk with
  | 0, _ => exact z_in (off := 216) (tgt := 256) hx hb (by decide) rfl rfl (q_0 C0 hW hO hcap hj kend ls H locs hl hP hS)
  | 1, _ => exact z_in (off := 289) (tgt := 329) hx hb (by decide) rfl rfl (q_1 C0 hW hO hcap hj kend ls H locs hl hP hS)
  | 2, _ => exact z_in (off := 314) (tgt := 354) hx hb (by decide) rfl rfl (q_2 C0 hW hO hcap hj kend ls H locs hl hP hS)
  | 3, _ => exact z_in (off := 327) (tgt := 367) hx hb (by decide) rfl rfl (q_3 C0 hW hO hcap hj kend ls H locs hl hP hS)
  | 4, _ => exact z_in (off := 340) (tgt := 380) hx hb (by decide) rfl rfl (q_4 C0 hW hO hcap hj kend ls H locs hl hP hS)
  | 5, _ => exact z_in (off := 377) (tgt := 417) hx hb (by decide) rfl rfl (q_5 C0 hW hO hcap hj kend ls H locs hl hP hS)
  | 6, _ => exact z_in (off := 414) (tgt := 454) hx hb (by decide) rfl rfl (q_6 C0 hW hO hcap hj kend ls H locs hl hP hS)
  | 7, _ => exact z_in (off := 439) (tgt := 479) hx hb (by decide) rfl rfl (q_7 C0 hW hO hcap hj kend ls H locs hl hP hS)
  | 8, _ => exact z_in (off := 464) (tgt := 504) hx hb (by decide) rfl rfl (q_8 C0 hW hO hcap hj kend ls H locs hl hP hS)
  | 9, _ => exact z_in (off := 489) (tgt := 529) hx hb (by decide) rfl rfl (q_9 C0 hW hO hcap hj kend ls H locs hl hP hS)
  | 10, _ => exact z_in (off := 502) (tgt := 542) hx hb (by decide) rfl rfl (q_10 C0 hW hO hcap hj kend ls H locs hl hP hS)
  | 11, _ => exact z_in (off := 515) (tgt := 555) hx hb (by decide) rfl rfl (q_11 C0 hW hO hcap hj kend ls H locs hl hP hS)
  | 12, _ => exact z_in (off := 552) (tgt := 592) hx hb (by decide) rfl rfl (q_12 C0 hW hO hcap hj kend ls H locs hl hP hS)
  | 13, _ => exact z_in (off := 589) (tgt := 629) hx hb (by decide) rfl rfl (q_13 C0 hW hO hcap hj kend ls H locs hl hP hS)
  | 14, _ => exact z_in (off := 614) (tgt := 654) hx hb (by decide) rfl rfl (q_14 C0 hW hO hcap hj kend ls H locs hl hP hS)
  | 15, _ => exact z_in (off := 627) (tgt := 667) hx hb (by decide) rfl rfl (q_15 C0 hW hO hcap hj kend ls H locs hl hP hS)
  | 16, _ => exact z_in (off := 640) (tgt := 680) hx hb (by decide) rfl rfl (q_16 C0 hW hO hcap hj kend ls H locs hl hP hS)
  | 17, _ => exact z_in (off := 677) (tgt := 717) hx hb (by decide) rfl rfl (q_17 C0 hW hO hcap hj kend ls H locs hl hP hS)
  | 18, _ => exact z_in (off := 731) (tgt := 771) hx hb (by decide) rfl rfl (q_18 C0 hW hO hcap hj kend ls H locs hl hP hS)
  | 19, _ => exact z_in (off := 797) (tgt := 837) hx hb (by decide) rfl rfl (q_19 C0 hW hO hcap hj kend ls H locs hl hP hS)
  | 20, _ => exact z_in (off := 863) (tgt := 903) hx hb (by decide) rfl rfl (q_20 C0 hW hO hcap hj kend ls H locs hl hP hS)
  | 21, _ => exact z_in (off := 905) (tgt := 945) hx hb (by decide) rfl rfl (q_21 C0 hW hO hcap hj kend ls H locs hl hP hS)
  | 22, _ => exact z_in (off := 942) (tgt := 982) hx hb (by decide) rfl rfl (q_22 C0 hW hO hcap hj kend ls H locs hl hP hS)
  | 23, _ => exact z_in (off := 1008) (tgt := 1048) hx hb (by decide) rfl rfl (q_23 C0 hW hO hcap hj kend ls H locs hl hP hS)
  | 24, _ => exact z_in (off := 1045) (tgt := 1085) hx hb (by decide) rfl rfl (q_24 C0 hW hO hcap hj kend ls H locs hl hP hS)
  | 25, _ => exact z_in (off := 1082) (tgt := 1122) hx hb (by decide) rfl rfl (q_25 C0 hW hO hcap hj kend ls H locs hl hP hS)
  | 26, _ => exact z_in (off := 1119) (tgt := 1159) hx hb (by decide) rfl rfl (q_26 C0 hW hO hcap hj kend ls H locs hl hP hS)
  | 27, _ => exact z_in (off := 1144) (tgt := 1184) hx hb (by decide) rfl rfl (q_27 C0 hW hO hcap hj kend ls H locs hl hP hS)
  | 28, _ => exact z_in (off := 1181) (tgt := 1221) hx hb (by decide) rfl rfl (q_28 C0 hW hO hcap hj kend ls H locs hl hP hS)
  | 29, _ => exact z_in (off := 1194) (tgt := 1234) hx hb (by decide) rfl rfl (q_29 C0 hW hO hcap hj kend ls H locs hl hP hS)
  | 30, _ => exact z_in (off := 1231) (tgt := 1271) hx hb (by decide) rfl rfl (q_30 C0 hW hO hcap hj kend ls H locs hl hP hS)
  | 31, _ => exact z_in (off := 1268) (tgt := 1308) hx hb (by decide) rfl rfl (q_31 C0 hW hO hcap hj kend ls H locs hl hP hS)
  | 32, _ => exact z_in (off := 1281) (tgt := 1321) hx hb (by decide) rfl rfl (q_32 C0 hW hO hcap hj kend ls H locs hl hP hS)
  | 33, _ => exact z_in (off := 1294) (tgt := 1334) hx hb (by decide) rfl rfl (q_33 C0 hW hO hcap hj kend ls H locs hl hP hS)
  | 34, _ => exact z_in (off := 1307) (tgt := 1347) hx hb (by decide) rfl rfl (q_34 C0 hW hO hcap hj kend ls H locs hl hP hS)
  | 35, _ => exact z_in (off := 1416) (tgt := 1456) hx hb (by decide) rfl rfl (q_35 C0 hW hO hcap hj kend ls H locs hl hP hS)
  | 36, _ => exact z_in (off := 1441) (tgt := 1481) hx hb (by decide) rfl rfl (q_36 C0 hW hO hcap hj kend ls H locs hl hP hS)
  | 37, _ => exact z_in (off := 1466) (tgt := 1506) hx hb (by decide) rfl rfl (q_37 C0 hW hO hcap hj kend ls H locs hl hP hS)
  | 38, _ => exact z_in (off := 1515) (tgt := 1555) hx hb (by decide) rfl rfl (q_38 C0 hW hO hcap hj kend ls H locs hl hP hS)
  | 39, _ => exact z_in (off := 1552) (tgt := 1592) hx hb (by decide) rfl rfl (q_39 C0 hW hO hcap hj kend ls H locs hl hP hS)
  | 40, _ => exact z_in (off := 1589) (tgt := 1629) hx hb (by decide) rfl rfl (q_40 C0 hW hO hcap hj kend ls H locs hl hP hS)
  | 41, _ => exact z_in (off := 1626) (tgt := 1666) hx hb (by decide) rfl rfl (q_41 C0 hW hO hcap hj kend ls H locs hl hP hS)
  | 42, _ => exact z_in (off := 1651) (tgt := 1691) hx hb (by decide) rfl rfl (q_42 C0 hW hO hcap hj kend ls H locs hl hP hS)
  | 43, _ => exact z_in (off := 1664) (tgt := 1704) hx hb (by decide) rfl rfl (q_43 C0 hW hO hcap hj kend ls H locs hl hP hS)
  | 44, _ => exact z_in (off := 1689) (tgt := 1729) hx hb (by decide) rfl rfl (q_44 C0 hW hO hcap hj kend ls H locs hl hP hS)
  | 45, _ => exact z_in (off := 1702) (tgt := 1742) hx hb (by decide) rfl rfl (q_45 C0 hW hO hcap hj kend ls H locs hl hP hS)
  | 46, _ => exact z_in (off := 1715) (tgt := 1755) hx hb (by decide) rfl rfl (q_46 C0 hW hO hcap hj kend ls H locs hl hP hS)
  | 47, _ => exact z_in (off := 1740) (tgt := 1780) hx hb (by decide) rfl rfl (q_47 C0 hW hO hcap hj kend ls H locs hl hP hS)
  | 48, _ => exact z_in (off := 1796) (tgt := 1836) hx hb (by decide) rfl rfl (q_48 C0 hW hO hcap hj kend ls H locs hl hP hS)
  | 49, _ => exact z_in (off := 1821) (tgt := 1861) hx hb (by decide) rfl rfl (q_49 C0 hW hO hcap hj kend ls H locs hl hP hS)
  | k + 50, hk =>
    have h1 := z_i64 (k + 50) hk
    exact lv_tableOut hx hb (tgt := 1874) z_sw (Or.inr (by rw [h1]; omega)) rfl (kend σ ⟨hW, hO, by omega, by omega⟩ ls H locs hl hP hS)
theorem z_loop (C : GC p l s m c dd cy z sa av b L xs) (hret : meth.sig.returnType = ret) (hlocks : meth.locks = false) : ∀ (n j : Nat) (σ : xM), L < 6 * (j + n) + 6 → j ≤ 512 → Wd σ → gO σ → mN σ ≤ 116 + 12 * j → mU σ ≤ 8001 + 98 * j → lW p l e s m below meth c (lw_Z below #[Value.ref b] s) dd cy z sa b [] (nI (6 * j)) 23 [] σ := by
  have C0 := C
  obtain ⟨⟨hx, hb, hml, hown, hts, hK, hZ, hZs, hz⟩, hX, hbl, hlt, hL⟩ := C
  have head : ∀ (j : Nat) (σ : xM), j ≤ 512 → mN σ ≤ 116 + 12 * j → mU σ ≤ 8001 + 98 * j → (6 * j + 5 < L → lW p l e s m below meth c (lw_Z below #[Value.ref b] s) dd cy z sa b [] (nI (6 * j)) 33 [] σ) → lW p l e s m below meth c (lw_Z below #[Value.ref b] s) dd cy z sa b [] (nI (6 * j)) 23 [] σ := by
    intro j σ hj hN hU kk ls H locs hl hP hS
    refine lv_iload hx hb (ld0 13 rfl) (lv_at hl 0 rfl) ?_
    refine lv_aload_n hx hb (i := 0) (ld0 14 rfl) rfl (lv_at hl 4 rfl) ?_
    refine va_slen hx hb hX hbl (fun h => by have h : z ≤ b := h; omega) hS (ld0 15 rfl) ?_
    refine lv_bipush hx hb (v := 6) (ld0 16 rfl) (by decide) ?_
    refine lv_isub hx hb (ld0 17 rfl) ?_
    refine lv_icmp_gt hx hb (tgt := 1880) (ld0 18 rfl) rfl (fun h => ?_) (fun h => ?_)
    · refine lv_iconst hx hb (v := 1) (ld34 11 rfl) (by decide) ?_
      refine va_forget (fun q hq => ?_) ?_
      · have h1 := hS.2.2 q hq
        have h1 : z ≤ q.base := h1
        omega
      · refine W.widen (k := 601024) (n := 7293034) (by omega) (by omega) ?_
        exact lw_ret hx hb hret hlocks (ld34 12 rfl)
    · rw [z_le hL hj] at h
      exact kk (by omega) ls H locs hl hP hS
  intro n
  induction n with
  | zero =>
    intro j σ h1 hj hW hO hN hU
    exact head j σ hj hN hU (fun h => absurd h (by omega))
  | succ n ih =>
    intro j σ h1 hj hW hO hN hU
    refine head j σ hj hN hU (fun h => z_step C0 hW hO ⟨by omega, by omega⟩ (by omega) (fun υ hυ => ?_))
    obtain ⟨u1, u2, u3, u4⟩ := hυ
    intro ls H locs hl hP hS
    refine lv_iinc hx hb (k := 0) (v := nI (6 * (j + 1))) (lv' := [(4, .int (nI (6 * (j + 1)))), (3, .ref (z + 115)), (2, .ref (z + 102)), (1, .ref (z + 0)), (0, .ref b)]) (ld34 9 rfl) hl rfl ((congrArg (nI (6 * j) + ·) (show Int32.ofInt 6 = nI 6 by decide)).trans ((nI_ad (6 * j) 6).trans (congrArg nI (by omega)))) (by decide) rfl (fun ls2 hl2 => ?_)
    refine lv_goto hx hb (tgt := 23) (ld34 10 rfl) rfl ?_
    exact ih (j + 1) υ (by omega) (by omega) u1 u2 (by omega) (by omega) ls2 H locs hl2 hP hS
end ZL
