/-! THE TEXT: drafts of a city, lines; what is told by a text -/
def kCity : List Nat := [25, 20, 9, 3]
def kHour : List Nat := [18, 21, 15, 8]
def kGives : List Nat := [19, 5, 22, 9, 7]
def kPerson : List Nat := [14, 15, 19, 18, 5, 16]
def kNear : List Nat := [18, 1, 5, 14]
def kAsked : List Nat := [4, 5, 11, 19, 1]
def kHeard : List Nat := [4, 18, 1, 5, 8]
def kWent : List Nat := [20, 14, 5, 23]
def kCat : List Nat := [20, 1, 3]
def kPlain : List Nat := [14, 9, 1, 12, 16]
def kShut : List Nat := [20, 21, 8, 19]
def kWalled : List Nat := [4, 5, 12, 12, 1, 23]
def kDoctor : List Nat := [18, 15, 20, 3, 15, 4]
def kHas : List Nat := [19, 1, 8]
def kDies : List Nat := [19, 5, 9, 4]
def kAt : List Nat := [20, 1]
def kGive : List Nat := [5, 22, 9, 7]
theorem kCity_ok : okW kCity ∧ lN (wdC kCity) = 1667855481 ∧ xpk (UInt32.ofNat 0) = some (lN (wdM kCity)) := ⟨⟨by decide, by decide⟩, by rw [show wdC kCity = 1667855481 from rfl]; rfl, by rw [show wdM kCity = 108185 from rfl]; rfl⟩
theorem kHour_ok : okW kHour ∧ lN (wdC kHour) = 1752135026 ∧ xpk (UInt32.ofNat 1) = some (lN (wdM kHour)) := ⟨⟨by decide, by decide⟩, by rw [show wdC kHour = 1752135026 from rfl]; rfl, by rw [show wdM kHour = 278194 from rfl]; rfl⟩
theorem kGives_ok : okW kGives ∧ lN (wdC kGives) = 444150998387 ∧ xpk (UInt32.ofNat 2) = some (lN (wdM kGives)) := ⟨⟨by decide, by decide⟩, by rw [show wdC kGives = 444150998387 from rfl]; rfl, by rw [show wdM kGives = 7657651 from rfl]; rfl⟩
theorem kPerson_ok : okW kPerson ∧ lN (wdC kPerson) = 123581014175598 ∧ xpk (UInt32.ofNat 3) = some (lN (wdM kPerson)) := ⟨⟨by decide, by decide⟩, by rw [show wdC kPerson = 123581014175598 from rfl]; rfl, by rw [show wdM kPerson = 542723566 from rfl]; rfl⟩
theorem kNear_ok : okW kNear ∧ lN (wdC kNear) = 1852137842 ∧ xpk (UInt32.ofNat 4) = some (lN (wdM kNear)) := ⟨⟨by decide, by decide⟩, by rw [show wdC kNear = 1852137842 from rfl]; rfl, by rw [show wdM kNear = 463922 from rfl]; rfl⟩
theorem kAsked_ok : okW kAsked ∧ lN (wdC kAsked) = 418548245860 ∧ xpk (UInt32.ofNat 5) = some (lN (wdM kAsked)) := ⟨⟨by decide, by decide⟩, by rw [show wdC kAsked = 418548245860 from rfl]; rfl, by rw [show wdM kAsked = 1682596 from rfl]; rfl⟩
theorem kHeard_ok : okW kHeard ∧ lN (wdC kHeard) = 448377483876 ∧ xpk (UInt32.ofNat 6) = some (lN (wdM kHeard)) := ⟨⟨by decide, by decide⟩, by rw [show wdC kHeard = 448377483876 from rfl]; rfl, by rw [show wdM kHeard = 8554052 from rfl]; rfl⟩
theorem kWent_ok : okW kWent ∧ lN (wdC kWent) = 2003136116 ∧ xpk (UInt32.ofNat 7) = some (lN (wdM kWent)) := ⟨⟨by decide, by decide⟩, by rw [show wdC kWent = 2003136116 from rfl]; rfl, by rw [show wdM kWent = 759252 from rfl]; rfl⟩
theorem kCat_ok : okW kCat ∧ lN (wdC kCat) = 6513012 ∧ xpk (UInt32.ofNat 8) = some (lN (wdM kCat)) := ⟨⟨by decide, by decide⟩, by rw [show wdC kCat = 6513012 from rfl]; rfl, by rw [show wdM kCat = 3124 from rfl]; rfl⟩
theorem kPlain_ok : okW kPlain ∧ lN (wdC kPlain) = 482854660462 ∧ xpk (UInt32.ofNat 9) = some (lN (wdM kPlain)) := ⟨⟨by decide, by decide⟩, by rw [show wdC kPlain = 482854660462 from rfl]; rfl, by rw [show wdM kPlain = 17171758 from rfl]; rfl⟩
theorem kShut_ok : okW kShut ∧ lN (wdC kShut) = 1936225652 ∧ xpk (UInt32.ofNat 10) = some (lN (wdM kShut)) := ⟨⟨by decide, by decide⟩, by rw [show wdC kShut = 1936225652 from rfl]; rfl, by rw [show wdM kShut = 631476 from rfl]; rfl⟩
theorem kWalled_ok : okW kWalled ∧ lN (wdC kWalled) = 131260314576228 ∧ xpk (UInt32.ofNat 11) = some (lN (wdM kWalled)) := ⟨⟨by decide, by decide⟩, by rw [show wdC kWalled = 131260314576228 from rfl]; rfl, by rw [show wdM kWalled = 773206180 from rfl]; rfl⟩
theorem kDoctor_ok : okW kDoctor ∧ lN (wdC kDoctor) = 110429572722546 ∧ xpk (UInt32.ofNat 12) = some (lN (wdM kDoctor)) := ⟨⟨by decide, by decide⟩, by rw [show wdC kDoctor = 110429572722546 from rfl]; rfl, by rw [show wdM kDoctor = 150065650 from rfl]; rfl⟩
theorem kHas_ok : okW kHas ∧ lN (wdC kHas) = 6840691 ∧ xpk (UInt32.ofNat 13) = some (lN (wdM kHas)) := ⟨⟨by decide, by decide⟩, by rw [show wdC kHas = 6840691 from rfl]; rfl, by rw [show wdM kHas = 8243 from rfl]; rfl⟩
theorem kDies_ok : okW kDies ∧ lN (wdC kDies) = 1684628851 ∧ xpk (UInt32.ofNat 14) = some (lN (wdM kDies)) := ⟨⟨by decide, by decide⟩, by rw [show wdC kDies = 1684628851 from rfl]; rfl, by rw [show wdM kDies = 140467 from rfl]; rfl⟩
theorem kAt_ok : okW kAt ∧ lN (wdC kAt) = 24948 ∧ xpk (UInt32.ofNat 15) = some (lN (wdM kAt)) := ⟨⟨by decide, by decide⟩, by rw [show wdC kAt = 24948 from rfl]; rfl, by rw [show wdM kAt = 52 from rfl]; rfl⟩
theorem kGive_ok : okW kGive ∧ lN (wdC kGive) = 1734964837 ∧ xpk (UInt32.ofNat 16) = some (lN (wdM kGive)) := ⟨⟨by decide, by decide⟩, by rw [show wdC kGive = 1734964837 from rfl]; rfl, by rw [show wdM kGive = 239301 from rfl]; rfl⟩
/-- a draft: a city, names, whether its head has been read -/
abbrev Drf : Type := Cty × (Nat → List Nat) × Bool
def dC (D : Drf) : Cty := D.1
def dN (D : Drf) : Nat → List Nat := D.2.1
def dB (D : Drf) : Bool := D.2.2
def C0 : Cty := (0, fun _ => 0, fun _ => 0, fun _ => 0, fun _ => 0, fun _ => none, fun _ _ => none, 0, 0, (0, 0, 0, 0), fun _ => 0, fun _ => 0, fun _ => 0)
def D0 : Drf := (C0, fun _ => [], false)
def sHead (C : Cty) (h g : Nat) : Cty := (pe C, kd C, h0 C, dz C, nr C, wn C, r0 C, h, g, (nNe C, nAs C, nHe C, nWe C), hb C, ho C, hg C)
def sPer (C : Cty) (k h d : Nat) : Cty := (pe C + 1, upN (kd C) (pe C) k, upN (h0 C) (pe C) h, upN (dz C) (pe C) d, nr C, wn C, r0 C, hr0 C, gv C, (nNe C, nAs C, nHe C, nWe C), hb C, ho C, hg C)
def sNear (C : Cty) (p q : Nat) : Cty := (pe C, kd C, h0 C, dz C, upN (upN (nr C) p (nr C p ||| 2 ^ q)) q (nr C q ||| 2 ^ p), wn C, r0 C, hr0 C, gv C, (nNe C + 1, nAs C, nHe C, nWe C), hb C, ho C, hg C)
def sReg (C : Cty) (p q h : Nat) : Cty := (pe C, kd C, h0 C, dz C, nr C, wn C, upN (r0 C) p (upN (r0 C p) q (some h)), hr0 C, gv C, (nNe C, nAs C, nHe C, nWe C), hb C, ho C, hg C)
def sAsk (C : Cty) (p q h : Nat) : Cty := (pe C, kd C, h0 C, dz C, nr C, wn C, upN (r0 C) p (upN (r0 C p) q (some h)), hr0 C, gv C, (nNe C, nAs C + 1, nHe C, nWe C), hb C, ho C, hg C)
def sHea (C : Cty) (p q h g : Nat) : Cty := (pe C, kd C, h0 C, dz C, nr C, wn C, upN (r0 C) p (upN (r0 C p) q (some h)), hr0 C, gv C, (nNe C, nAs C, nHe C + 1, nWe C), upN (hb C) (nHe C) p, upN (ho C) (nHe C) q, upN (hg C) (nHe C) g)
def sWen (C : Cty) (p : Nat) (w : Option Nat) : Cty := (pe C, kd C, h0 C, dz C, nr C, upN (wn C) p (some w), r0 C, hr0 C, gv C, (nNe C, nAs C, nHe C, nWe C + 1), hb C, ho C, hg C)
/-- what is so of every draft -/
def OkD (D : Drf) : Prop := OkC (dC D) ∧ OkH (dC D) ∧ nNe (dC D) ≤ 9 ∧ nAs (dC D) ≤ 12 ∧ (∀ p, p < pe (dC D) → okW (dN D p)) ∧ (dB D = false → pe (dC D) = 0 ∧ nNe (dC D) = 0 ∧ nAs (dC D) = 0 ∧ nHe (dC D) = 0)
theorem rg2 {r : Nat → Nat → Option Nat} {p q x y : Nat} {v : Option Nat} : upN r p (upN (r p) q v) x y = if x = p ∧ y = q then v else r x y := by
  by_cases e1 : x = p <;> by_cases e2 : y = q <;> simp [upN, e1, e2]
theorem D0_ok : OkD D0 := by
  refine ⟨⟨?_, fun p hp => ?_, fun p hp => ?_, fun p q => (tb_0 q).trans (tb_0 p).symm, fun p => tb_0 p, fun p q h => ?_, fun p _ => rfl, fun p q h e => ?_, fun p => rfl, ?_, ?_, ?_, fun k hk => ?_⟩, fun i j hi => ?_, ?_, ?_, fun p hp => ?_, fun _ => ⟨rfl, rfl, rfl, rfl⟩⟩
  · show 0 ≤ 6; omega
  · have hp : p < 0 := hp; omega
  · show 0 < 2 ^ 0; decide
  · cases h
  · cases e
  · show 0 ≤ 99; omega
  · show 0 ≤ 9; omega
  · show 0 ≤ 3; omega
  · have hk : k < 0 := hk; omega
  · have hi : i < 0 := hi; omega
  · show 0 ≤ 9; omega
  · show 0 ≤ 12; omega
  · have hp : p < 0 := hp; omega
section OKS
variable {C : Cty}
theorem sHead_ok (h : OkC C) (hp : pe C = 0) {x g : Nat} (hx : x ≤ 99) (hg' : g ≤ 9) : OkC (sHead C x g) := by
  obtain ⟨o1, o2, o3, o4, o5, o6, o7, o8, o9, o10, o11, o12, o13⟩ := h
  exact ⟨o1, o2, o3, o4, o5, o6, o7, fun p q y e => absurd (o8 p q y e).1 (by omega), o9, hx, hg', o12, o13⟩
theorem sPer_ok (h : OkC C) (hp : pe C < 6) {k x d : Nat} (hk : k ≤ 3) (hx : x ≤ 99) (hd : d ≤ 100) : OkC (sPer C k x d) := by
  obtain ⟨o1, o2, o3, o4, o5, o6, o7, o8, o9, o10, o11, o12, o13⟩ := h
  have h2 : (2 : Nat) ^ pe C ≤ 2 ^ (pe C + 1) := Nat.pow_le_pow_right (by omega) (by omega)
  refine ⟨by show pe C + 1 ≤ 6; omega, fun p hp' => ?_, fun p hp' => Nat.lt_of_lt_of_le (o3 p hp') h2, o4, o5, fun p q e => ?_, fun p hp' => o7 p ?_, fun p q y e => ?_, o9, o10, o11, o12, fun i hi => ?_⟩
  · have hp' : p < pe C + 1 := hp'
    show upN (kd C) (pe C) k p ≤ 3 ∧ upN (h0 C) (pe C) x p ≤ 99 ∧ upN (dz C) (pe C) d p ≤ 100
    unfold upN
    by_cases e : p = pe C
    · rw [if_pos e, if_pos e, if_pos e]
      exact ⟨hk, hx, hd⟩
    · rw [if_neg e, if_neg e, if_neg e]
      exact o2 p (by omega)
  · have := o6 p q e
    show q < pe C + 1
    omega
  · have hp' : pe C + 1 ≤ p := hp'
    omega
  · have := o8 p q y e
    exact ⟨by show p < pe C + 1; omega, by show q < pe C + 1; omega, this.2.2⟩
  · obtain ⟨a, b, c, d⟩ := o13 i hi
    exact ⟨by show hb C i < pe C + 1; omega, by show ho C i < pe C + 1; omega, c, d⟩
theorem sNear_ok (h : OkC C) {p q : Nat} (hp : p < pe C) (hq : q < pe C) (hpq : p ≠ q) : OkC (sNear C p q) := by
  obtain ⟨o1, o2, o3, o4, o5, o6, o7, o8, o9, o10, o11, o12, o13⟩ := h
  have hn : ∀ x y, tb (nr (sNear C p q) x) y = (tb (nr C x) y || (decide (x = p ∧ y = q) || decide (x = q ∧ y = p))) := fun x y => by
    show tb (upN (upN (nr C) p (nr C p ||| 2 ^ q)) q (nr C q ||| 2 ^ p) x) y = _
    unfold upN
    by_cases e1 : x = q
    · rw [if_pos e1, tb_or, e1]
      have : ¬ (q = p) := fun h => hpq h.symm
      simp [this]
    · rw [if_neg e1]
      by_cases e2 : x = p
      · rw [if_pos e2, tb_or, e2]
        simp [hpq]
      · rw [if_neg e2]
        simp [e1, e2]
  refine ⟨o1, o2, fun x hx => ?_, fun x y => ?_, fun x => ?_, o6, o7, o8, o9, o10, o11, o12, o13⟩
  · show upN (upN (nr C) p (nr C p ||| 2 ^ q)) q (nr C q ||| 2 ^ p) x < 2 ^ pe C
    have l1 : 2 ^ q < 2 ^ pe C := Nat.pow_lt_pow_right (by omega) hq
    have l2 : 2 ^ p < 2 ^ pe C := Nat.pow_lt_pow_right (by omega) hp
    unfold upN
    by_cases e1 : x = q
    · rw [if_pos e1]
      exact Nat.or_lt_two_pow (o3 q (by omega)) l2
    · rw [if_neg e1]
      by_cases e2 : x = p
      · rw [if_pos e2]
        exact Nat.or_lt_two_pow (o3 p (by omega)) l1
      · rw [if_neg e2]
        exact o3 x hx
  · rw [hn, hn, o4 x y]
    congr 1
    rw [Bool.or_comm]
    congr 1
    · exact decide_eq_decide.mpr ⟨fun h => ⟨h.2, h.1⟩, fun h => ⟨h.2, h.1⟩⟩
    · exact decide_eq_decide.mpr ⟨fun h => ⟨h.2, h.1⟩, fun h => ⟨h.2, h.1⟩⟩
  · rw [hn, o5]
    have a : ¬ (x = p ∧ x = q) := fun h => hpq (h.1.symm.trans h.2)
    have b : ¬ (x = q ∧ x = p) := fun h => hpq (h.2.symm.trans h.1)
    simp [a, b]
theorem sReg_ok (h : OkC C) {p q x : Nat} (hp : p < pe C) (hq : q < pe C) (hpq : p ≠ q) (hx : x ≤ hr0 C) : OkC (sReg C p q x) := by
  obtain ⟨o1, o2, o3, o4, o5, o6, o7, o8, o9, o10, o11, o12, o13⟩ := h
  have hr : ∀ a b, r0 (sReg C p q x) a b = if a = p ∧ b = q then some x else r0 C a b := fun a b => rg2
  refine ⟨o1, o2, o3, o4, o5, o6, o7, fun a b y e => ?_, fun a => ?_, o10, o11, o12, fun i hi => ?_⟩
  · rw [hr] at e
    split at e
    · rename_i hh
      have := Option.some.inj e
      exact ⟨by rw [hh.1]; exact hp, by rw [hh.2]; exact hq, by show y ≤ hr0 C; omega⟩
    · exact o8 a b y e
  · rw [hr, if_neg (fun hh => hpq (hh.1.symm.trans hh.2))]
    exact o9 a
  · obtain ⟨a, b, c, d, e⟩ := o13 i hi
    refine ⟨a, b, c, ?_⟩
    show ∃ y, r0 (sReg C p q x) (hb C i) (ho C i) = some y
    rw [hr]
    split
    · exact ⟨x, rfl⟩
    · exact ⟨d, e⟩
theorem sAsk_ok (h : OkC C) {p q x : Nat} (hp : p < pe C) (hq : q < pe C) (hpq : p ≠ q) (hx : x ≤ hr0 C) : OkC (sAsk C p q x) := by
  obtain ⟨o1, o2, o3, o4, o5, o6, o7, o8, o9, o10, o11, o12, o13⟩ := h
  have hr : ∀ a b, r0 (sAsk C p q x) a b = if a = p ∧ b = q then some x else r0 C a b := fun a b => rg2
  refine ⟨o1, o2, o3, o4, o5, o6, o7, fun a b y e => ?_, fun a => ?_, o10, o11, o12, fun i hi => ?_⟩
  · rw [hr] at e
    split at e
    · rename_i hh
      have := Option.some.inj e
      exact ⟨by rw [hh.1]; exact hp, by rw [hh.2]; exact hq, by show y ≤ hr0 C; omega⟩
    · exact o8 a b y e
  · rw [hr, if_neg (fun hh => hpq (hh.1.symm.trans hh.2))]
    exact o9 a
  · obtain ⟨a, b, c, d, e⟩ := o13 i hi
    refine ⟨a, b, c, ?_⟩
    show ∃ y, r0 (sAsk C p q x) (hb C i) (ho C i) = some y
    rw [hr]
    split
    · exact ⟨x, rfl⟩
    · exact ⟨d, e⟩
theorem sHea_ok (h : OkC C) (hH : OkH C) {p q x g : Nat} (hp : p < pe C) (hq : q < pe C) (hpq : p ≠ q) (hx : x ≤ hr0 C) (hg' : g ≤ 3) (hn : nHe C < 3) (hno : r0 C p q = none) : OkC (sHea C p q x g) ∧ OkH (sHea C p q x g) := by
  obtain ⟨o1, o2, o3, o4, o5, o6, o7, o8, o9, o10, o11, o12, o13⟩ := h
  have hr : ∀ a b, r0 (sHea C p q x g) a b = if a = p ∧ b = q then some x else r0 C a b := fun a b => rg2
  have eb : ∀ i, hb (sHea C p q x g) i = if i = nHe C then p else hb C i := fun i => rfl
  have eo : ∀ i, ho (sHea C p q x g) i = if i = nHe C then q else ho C i := fun i => rfl
  have eg : ∀ i, hg (sHea C p q x g) i = if i = nHe C then g else hg C i := fun i => rfl
  have en : nHe (sHea C p q x g) = nHe C + 1 := rfl
  have ep : pe (sHea C p q x g) = pe C := rfl
  have hne : ∀ i, i < nHe C → ¬ (hb C i = p ∧ ho C i = q) := fun i hi hh => by
    obtain ⟨-, -, -, y, e⟩ := o13 i hi
    rw [hh.1, hh.2, hno] at e
    cases e
  refine ⟨⟨o1, o2, o3, o4, o5, o6, o7, fun a b y e => ?_, fun a => ?_, o10, o11, ?_, fun i hi => ?_⟩, fun i j hi hj e1 e2 => ?_⟩
  · rw [hr] at e
    split at e
    · rename_i hh
      have := Option.some.inj e
      exact ⟨by rw [hh.1]; exact hp, by rw [hh.2]; exact hq, by show y ≤ hr0 C; omega⟩
    · exact o8 a b y e
  · rw [hr, if_neg (fun hh => hpq (hh.1.symm.trans hh.2))]
    exact o9 a
  · rw [en]
    omega
  · rw [en] at hi
    rw [ep, hr, eb, eo, eg]
    by_cases e : i = nHe C
    · rw [if_pos e, if_pos e, if_pos e, if_pos ⟨rfl, rfl⟩]
      exact ⟨hp, hq, hg', x, rfl⟩
    · obtain ⟨a, b, c, y, z⟩ := o13 i (by omega)
      rw [if_neg e, if_neg e, if_neg e, if_neg (hne i (by omega))]
      exact ⟨a, b, c, y, z⟩
  · rw [en] at hi hj
    rw [eb, eb] at e1
    rw [eo, eo] at e2
    by_cases a : i = nHe C
    · by_cases b : j = nHe C
      · omega
      · rw [if_pos a, if_neg b] at e1 e2
        exact absurd ⟨e1.symm, e2.symm⟩ (hne j (by omega))
    · by_cases b : j = nHe C
      · rw [if_neg a, if_pos b] at e1 e2
        exact absurd ⟨e1, e2⟩ (hne i (by omega))
      · rw [if_neg a, if_neg b] at e1 e2
        exact hH i j (by omega) (by omega) e1 e2
theorem sWen_ok (h : OkC C) {p : Nat} {w : Option Nat} (hp : p < pe C) (hw : ∀ q, w = some q → q < pe C) : OkC (sWen C p w) := by
  obtain ⟨o1, o2, o3, o4, o5, o6, o7, o8, o9, o10, o11, o12, o13⟩ := h
  refine ⟨o1, o2, o3, o4, o5, fun a b e => ?_, fun a ha => ?_, o8, o9, o10, o11, o12, o13⟩
  · have e : upN (wn C) p (some w) a = some (some b) := e
    unfold upN at e
    split at e
    · exact hw b (Option.some.inj e)
    · exact o6 a b e
  · show upN (wn C) p (some w) a = none
    have ha : pe C ≤ a := ha
    unfold upN
    rw [if_neg (by omega)]
    exact o7 a ha
end OKS
