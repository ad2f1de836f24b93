theorem zT0C (j : Nat) : pI zhC 1 j = sb ((fun _ => 0) j) := by
  rfl
theorem zT0M (j : Nat) : pI zhM 1 j = (fun _ => (0 : Int)) j := by
  rfl
theorem zCT0a : (List.range 7).all (fun j => decide (pI zhC (rcA 9 j).1 (rcA 9 j).2 = 0)) = true := by decide +kernel
theorem zCT0b : (List.range 3).all (fun j => decide (pI zhC 22 j = -1)) = true := by decide +kernel
theorem zCT0c : (List.range 2).all (fun j => decide (pI zhC 9 (6 + j) = 0)) = true := by decide +kernel
theorem zCT0 : CT (fun _ _ => 0) S0 zhC := ⟨9, by decide, by decide +kernel, by decide +kernel, fun j hj => of_decide_eq_true (List.all_eq_true.mp zCT0a j (List.mem_range.mpr hj)), by decide +kernel, fun j hj => ⟨fun _ => of_decide_eq_true (List.all_eq_true.mp zCT0b j (List.mem_range.mpr hj)), fun _ => rfl⟩, fun _ _ _ _ _ hlt => absurd hlt (Nat.not_lt_zero _), fun j hj => of_decide_eq_true (List.all_eq_true.mp zCT0c j (List.mem_range.mpr hj)), by decide +kernel, fun j hj h0 => absurd rfl h0⟩
theorem zTM0a : (List.range 5).all (fun j => decide (pI zhM 0 (12 + j) = 0)) = true := by decide +kernel
theorem zTM0b : (List.range 3).all (fun j => decide (pI zhM 19 j = 0)) = true := by decide +kernel
theorem zTM0 : TM (fun _ _ => 0) S0 zhM := ⟨fun j hj => of_decide_eq_true (List.all_eq_true.mp zTM0a j (List.mem_range.mpr hj)), by decide +kernel, fun _ _ _ hlt => absurd hlt (Nat.not_lt_zero _), ⟨by decide +kernel, by decide +kernel⟩, by decide, fun j hj => ⟨of_decide_eq_true (List.all_eq_true.mp zTM0b j (List.mem_range.mpr hj)), fun h0 => absurd rfl h0⟩⟩
theorem zCS0a : ((List.range 8).all fun g => decide (pI zhC 44 g = 0) && (decide (pI zhC 45 g = 0) && (decide (pI zhC 46 g = 0) && decide (pI zhC 47 g = 0)))) = true := by decide +kernel
theorem zCS0b : ((List.range 10).all fun p => decide (pI zhC 48 p = 0)) = true := by decide +kernel
theorem zMS0a : ((List.range 10).all fun p => decide (pI zhM 34 (10 * 0 + p) = 0)) = true := by decide +kernel
theorem zCS0 : CS 43 (bgS (fun _ _ => 0) S0) zhC := by
  refine CS.mk (b := 43) (fun g hg => ?_) (fun g hg => ?_) (fun g hg => ?_) (fun g hg => ?_) (fun p hp => of_decide_eq_true (zall_r zCS0b hp)) ⟨by decide +kernel, by decide +kernel, by decide +kernel⟩ ⟨by decide +kernel, by decide +kernel, fun g hg => ?_⟩
  all_goals first | (have t := zall_r zCS0a hg; simp only [Bool.and_eq_true, decide_eq_true_eq] at t) | skip
  · exact t.1
  · exact t.2.1
  · exact t.2.2.1
  · exact t.2.2.2
  · rw [show pI zhC 43 3 = 0 from by decide +kernel]
    exact (wbT_0 g hg).trans rfl
theorem zOK0 : zOK 0 zhC zhM := by
  refine ⟨((0, fun _ => 0, ((0, -1, 0, 0, 0, 0, -1), fun _ _ => 0, S0)), bgX (fun _ _ => 0) S0), ⟨⟨sInvC0, by decide, by decide +kernel, fun j _ => zT0C j, ⟨by decide +kernel, by decide +kernel, by decide +kernel, by decide +kernel, fun e => absurd e (by decide), by decide +kernel, by decide +kernel⟩, zCT0⟩, zCS0, fun e => absurd ((show pI zhC 0 9 = 0 from by decide +kernel).symm.trans e) (by decide), ?_, fun k hk => absurd hk (Nat.not_lt_zero k)⟩, ⟨⟨sInvM0, by decide, by decide +kernel, fun j _ => zT0M j, ⟨by decide +kernel, by decide +kernel, by decide +kernel, by decide +kernel, fun e => absurd e (by decide), by decide +kernel, by decide +kernel⟩, zTM0⟩, ⟨fun g hg => absurd hg (Nat.not_lt_zero g), fun p hp => of_decide_eq_true (zall_r zMS0a hp), ?_, ?_, ?_⟩, fun e => absurd ((show pI zhM 0 82 = 0 from by decide +kernel).symm.trans e) (by decide), ?_, fun k hk => absurd hk (Nat.not_lt_zero k)⟩, ⟨by decide, by decide, by decide, by decide, by decide⟩, PB.zero rfl rfl, XB.bp (PB.zero rfl rfl) (by decide)⟩
  · show pI zhC 86 4 = 0
    decide +kernel
  · show pI zhM 36 0 = 0
    decide +kernel
  · show pI zhM 35 0 = 0
    decide +kernel
  · show pL zhM 0 65 = 0
    decide +kernel
  · show pI zhM 0 80 = 0
    decide +kernel
theorem zi6 {k L : Nat} {j : Int} (h0 : 0 ≤ j) (h5 : j ≤ 5) (hk : 6 * k + 6 ≤ L) (hL : L ≤ 3072) : zIx L (Int32.ofInt (6 * (k : Int))) j := by
  intro hc
  rw [← Int32.ofInt_add] at hc
  have t : (Int32.ofInt (6 * (k : Int) + j)).toInt = 6 * (k : Int) + j := Int32.toInt_ofInt_of_le (by omega) (by omega)
  rcases hc with hc | hc
  · have h1 := Int32.lt_iff_toInt_lt.mp hc
    rw [t, show (0 : Int32).toInt = 0 from by decide] at h1
    omega
  · have e2 : (Int32.ofInt (6 * (k : Int) + j)).toNatClampNeg = (Int32.ofInt (6 * (k : Int) + j)).toInt.toNat := rfl
    rw [e2, t] at hc
    omega
theorem zi0 {k L : Nat} (hk : 6 * k + 6 ≤ L) (hL : L ≤ 3072) : ¬ (Int32.ofInt (6 * (k : Int)) < 0 ∨ L ≤ (Int32.ofInt (6 * (k : Int))).toNatClampNeg) := by
  intro hc
  have t : (Int32.ofInt (6 * (k : Int))).toInt = 6 * (k : Int) := Int32.toInt_ofInt_of_le (by omega) (by omega)
  rcases hc with hc | hc
  · have h1 := Int32.lt_iff_toInt_lt.mp hc
    rw [t, show (0 : Int32).toInt = 0 from by decide] at h1
    omega
  · have e2 : (Int32.ofInt (6 * (k : Int))).toNatClampNeg = (Int32.ofInt (6 * (k : Int))).toInt.toNat := rfl
    rw [e2, t] at hc
    omega
theorem zil {k L : Nat} (hk : k ≤ 520) (hL : L ≤ 3072) : (Int32.ofNat L - Int32.ofInt 6 < Int32.ofInt (6 * (k : Int))) ↔ L < 6 * k + 6 := by
  have t : (Int32.ofInt (6 * (k : Int))).toInt = 6 * (k : Int) := Int32.toInt_ofInt_of_le (by omega) (by omega)
  have t2 : (Int32.ofNat L).toInt = (L : Int) := Int32.toInt_ofNat_of_lt (by omega)
  have t3 : (Int32.ofInt 6).toInt = 6 := by decide
  rw [Int32.lt_iff_toInt_lt, Int32.toInt_sub, t, t2, t3, s32r _ (by show (-2147483648 : Int) ≤ _; omega) (by show _ ≤ (2147483647 : Int); omega)]
  omega
set_option maxRecDepth 100000 in
set_option maxHeartbeats 4000000 in
theorem zlpx (l : Launch) (hl : l.stackTraces = false) (D : va_G) (cT : Nat → ClassId) (bs : Nat) (ov : Nat → Value) (xs : Nat → Int32) (Z : Nat → Prop) (hZ : ∀ q, ¬ Z q) {L : Nat} (hL : L ≤ 3072) {k : Nat} (hk : k ≤ 520) (hgt : L < 6 * k + 6) {f1 f2 : zH} {u : Int64} {cs ss : Nat} : zX l ((D, cT, bs, ov, L, xs, Z) : zG) false 11 zhL (zQL ((D, cT, bs, ov, L, xs, Z) : zG)) cs ss 23 [(4, .int (Int32.ofInt (6 * (k : Int)))), (3, .ref 142), (2, .ref 98), (1, .ref 0), (0, .retAddr 10)] [] (zW f1 f2 u) := by
  refine zlaw (n := 1000) (stop := fun _ => false) (S := fun _ _ _ _ _ _ => False) (fun _ _ _ _ _ _ h _ => by cases h) ?_
  refine zdecT ((zil hk hL).mpr hgt) (fun _ => ?_)
  refine zsvI (Eq.refl _) ?_
  decide +kernel
set_option maxRecDepth 100000 in
set_option maxHeartbeats 4000000 in
theorem zlp (l : Launch) (hl : l.stackTraces = false) (D : va_G) (cT : Nat → ClassId) (bs : Nat) (ov : Nat → Value) (xs : Nat → Int32) (Z : Nat → Prop) (hZ : ∀ q, ¬ Z q) {L : Nat} (hL : L ≤ 3072) : ∀ (n k : Nat) (f1 f2 : zH) (u : Int64) (cs ss : Nat), L < 6 * k + 6 * n → k ≤ 513 → zOK k f1 f2 → cs ≤ 143 + k → ss ≤ 13298 + 6 * k → zX l ((D, cT, bs, ov, L, xs, Z) : zG) false 11 zhL (zQL ((D, cT, bs, ov, L, xs, Z) : zG)) cs ss 23 [(4, .int (Int32.ofInt (6 * (k : Int)))), (3, .ref 142), (2, .ref 98), (1, .ref 0), (0, .retAddr 10)] [] (zW f1 f2 u) := by
  intro n
  induction n with
  | zero => exact fun k f1 f2 u cs ss hn hk hOK hc hs => zlpx l hl D cT bs ov xs Z hZ hL (by omega) (by omega)
  | succ n ih =>
    intro k f1 f2 u cs ss hn hk hOK hc hs
    by_cases hgt : L < 6 * k + 6
    · exact zlpx l hl D cT bs ov xs Z hZ hL (by omega) hgt
    have hS : zNx l ((D, cT, bs, ov, L, xs, Z) : zG) (Int32.ofInt (6 * (k : Int))) cs ss k := by
      intro g1 g2 u' cs' ss' hok a b
      have e : Int32.ofInt (6 * (k : Int)) + Int32.ofInt 6 = Int32.ofInt (6 * ((k + 1 : Nat) : Int)) := by
        rw [← Int32.ofInt_add]
        exact congrArg Int32.ofInt (by omega)
      rw [e]
      exact ih (k + 1) g1 g2 u' cs' ss' (by omega) (by omega) hok (by omega) (by omega)
    have hx : ∀ j : Int, 1 ≤ j → j ≤ 5 → zIx L (Int32.ofInt (6 * (k : Int))) j := fun j h1 h5 => zi6 (by omega) h5 (by omega) hL
    have hcs : cs + 2 ≤ zhL.2.2.2.2.1 := Nat.le_trans (show cs + 2 ≤ 1000 by omega) (by decide +kernel)
    have hss : ss + 12 ≤ zhL.2.2.2.2.2 := Nat.le_trans (show ss + 12 ≤ 20000 by omega) (by decide +kernel)
    have h0 := zi0 (k := k) (L := L) (by omega) hL
    have hng : ¬ (Int32.ofNat L - Int32.ofInt 6 < Int32.ofInt (6 * (k : Int))) := fun h => hgt ((zil (by omega) hL).mp h)
    refine zlaw (n := 1000) (stop := fun p => (Nat.ble 224 p && Nat.ble p 1542) || Nat.beq p 23) (S := fun cs ss pc lo st h => zX l ((D, cT, bs, ov, L, xs, Z) : zG) false 11 zhL (zQL ((D, cT, bs, ov, L, xs, Z) : zG)) cs ss pc lo st h) (fun _ _ _ _ _ _ _ h => h) ?_
    refine zdecF hng (fun _ => ?_)
    refine zdecF h0 (fun _ => ?_)
    refine zdec (fun _ => ?_) (fun _ => zlc0 l hl D cT bs ov xs Z hZ hcs hss hx (k := k) hk hOK hS)
    refine zdec (fun _ => ?_) (fun _ => zlc1 l hl D cT bs ov xs Z hZ hcs hss hx (k := k) hk hOK hS)
    refine zdec (fun _ => ?_) (fun _ => zlc2 l hl D cT bs ov xs Z hZ hcs hss hx (k := k) hk hOK hS)
    refine zdec (fun _ => ?_) (fun _ => zlc3 l hl D cT bs ov xs Z hZ hcs hss hx (k := k) hk hOK hS)
    refine zdec (fun _ => ?_) (fun _ => zlc4 l hl D cT bs ov xs Z hZ hcs hss hx (k := k) hk hOK hS)
    refine zdec (fun _ => ?_) (fun _ => zlc5 l hl D cT bs ov xs Z hZ hcs hss hx (k := k) hk hOK hS)
    refine zdec (fun _ => ?_) (fun _ => zlc6 l hl D cT bs ov xs Z hZ hcs hss hx (k := k) hk hOK hS)
    refine zdec (fun _ => ?_) (fun _ => zlc7 l hl D cT bs ov xs Z hZ hcs hss hx (k := k) hk hOK hS)
    refine zdec (fun _ => ?_) (fun _ => zlc8 l hl D cT bs ov xs Z hZ hcs hss hx (k := k) hk hOK hS)
    refine zdec (fun _ => ?_) (fun _ => zlc9 l hl D cT bs ov xs Z hZ hcs hss hx (k := k) hk hOK hS)
    refine zdec (fun _ => ?_) (fun _ => zlc10 l hl D cT bs ov xs Z hZ hcs hss hx (k := k) hk hOK hS)
    refine zdec (fun _ => ?_) (fun _ => zlc11 l hl D cT bs ov xs Z hZ hcs hss hx (k := k) hk hOK hS)
    refine zdec (fun _ => ?_) (fun _ => zlc12 l hl D cT bs ov xs Z hZ hcs hss hx (k := k) hk hOK hS)
    refine zdec (fun _ => ?_) (fun _ => zlc13 l hl D cT bs ov xs Z hZ hcs hss hx (k := k) hk hOK hS)
    refine zdec (fun _ => ?_) (fun _ => zlc14 l hl D cT bs ov xs Z hZ hcs hss hx (k := k) hk hOK hS)
    refine zdec (fun _ => ?_) (fun _ => zlc15 l hl D cT bs ov xs Z hZ hcs hss hx (k := k) hk hOK hS)
    refine zdec (fun _ => ?_) (fun _ => zlc16 l hl D cT bs ov xs Z hZ hcs hss hx (k := k) hk hOK hS)
    refine zdec (fun _ => ?_) (fun _ => zlc17 l hl D cT bs ov xs Z hZ hcs hss hx (k := k) hk hOK hS)
    refine zdec (fun _ => ?_) (fun _ => zlc18 l hl D cT bs ov xs Z hZ hcs hss hx (k := k) hk hOK hS)
    refine zdec (fun _ => ?_) (fun _ => zlc19 l hl D cT bs ov xs Z hZ hcs hss hx (k := k) hk hOK hS)
    refine zdec (fun _ => ?_) (fun _ => zlc20 l hl D cT bs ov xs Z hZ hcs hss hx (k := k) hk hOK hS)
    refine zdec (fun _ => ?_) (fun _ => zlc21 l hl D cT bs ov xs Z hZ hcs hss hx (k := k) hk hOK hS)
    refine zdec (fun _ => ?_) (fun _ => zlc22 l hl D cT bs ov xs Z hZ hcs hss hx (k := k) hk hOK hS)
    refine zdec (fun _ => ?_) (fun _ => zlc23 l hl D cT bs ov xs Z hZ hcs hss hx (k := k) hk hOK hS)
    refine zdec (fun _ => ?_) (fun _ => zlc24 l hl D cT bs ov xs Z hZ hcs hss hx (k := k) hk hOK hS)
    refine zdec (fun _ => ?_) (fun _ => zlc25 l hl D cT bs ov xs Z hZ hcs hss hx (k := k) hk hOK hS)
    refine zdec (fun _ => ?_) (fun _ => zlc26 l hl D cT bs ov xs Z hZ hcs hss hx (k := k) hk hOK hS)
    refine zdec (fun _ => ?_) (fun _ => zlc27 l hl D cT bs ov xs Z hZ hcs hss hx (k := k) hk hOK hS)
    refine zdec (fun _ => ?_) (fun _ => zlc28 l hl D cT bs ov xs Z hZ hcs hss hx (k := k) hk hOK hS)
    refine zdec (fun _ => ?_) (fun _ => zlc29 l hl D cT bs ov xs Z hZ hcs hss hx (k := k) hk hOK hS)
    refine zdec (fun _ => ?_) (fun _ => zlc30 l hl D cT bs ov xs Z hZ hcs hss hx (k := k) hk hOK hS)
    refine zdec (fun _ => ?_) (fun _ => zlc31 l hl D cT bs ov xs Z hZ hcs hss hx (k := k) hk hOK hS)
    refine zdec (fun _ => ?_) (fun _ => zlc32 l hl D cT bs ov xs Z hZ hcs hss hx (k := k) hk hOK hS)
    refine zdec (fun _ => ?_) (fun _ => zlc33 l hl D cT bs ov xs Z hZ hcs hss hx (k := k) hk hOK hS)
    refine zdec (fun _ => ?_) (fun _ => zlc34 l hl D cT bs ov xs Z hZ hcs hss hx (k := k) hk hOK hS)
    refine zdec (fun _ => ?_) (fun _ => zlc35 l hl D cT bs ov xs Z hZ hcs hss hx (k := k) hk hOK hS)
    refine zdec (fun _ => ?_) (fun _ => zlc36 l hl D cT bs ov xs Z hZ hcs hss hx (k := k) hk hOK hS)
    refine zdec (fun _ => ?_) (fun _ => zlc37 l hl D cT bs ov xs Z hZ hcs hss hx (k := k) hk hOK hS)
    refine zdec (fun _ => ?_) (fun _ => zlc38 l hl D cT bs ov xs Z hZ hcs hss hx (k := k) hk hOK hS)
    refine zdec (fun _ => ?_) (fun _ => zlc39 l hl D cT bs ov xs Z hZ hcs hss hx (k := k) hk hOK hS)
    refine zdec (fun _ => ?_) (fun _ => zlc40 l hl D cT bs ov xs Z hZ hcs hss hx (k := k) hk hOK hS)
    refine zdec (fun _ => ?_) (fun _ => zlc41 l hl D cT bs ov xs Z hZ hcs hss hx (k := k) hk hOK hS)
    exact hS f1 f2 u cs ss hOK.le (Nat.le_add_right _ _) (Nat.le_add_right _ _)
set_option maxRecDepth 100000 in
set_option maxHeartbeats 4000000 in
theorem zmain (l : Launch) (hl : l.stackTraces = false) (D : va_G) (cT : Nat → ClassId) (bs : Nat) (ov : Nat → Value) (xs : Nat → Int32) (Z : Nat → Prop) (hZ : ∀ q, ¬ Z q) {L : Nat} (hL : L ≤ 3072) : zX l ((D, cT, bs, ov, L, xs, Z) : zG) true 11 zhL (zQL ((D, cT, bs, ov, L, xs, Z) : zG)) 0 0 0 [(0, .retAddr 10)] [] (zh00) := by
  refine zlaw (n := 1000) (stop := fun p => Nat.beq p 23) (S := fun cs ss pc lo st h => zX l ((D, cT, bs, ov, L, xs, Z) : zG) true 11 zhL (zQL ((D, cT, bs, ov, L, xs, Z) : zG)) cs ss pc lo st h) (fun _ _ _ _ _ _ _ h => h) ?_
  show zSem l ((D, cT, bs, ov, L, xs, Z) : zG) true 10 (zhd 0) [.ref 0] (znew zh00 (0, 0)) _
  refine zSem.mono (zcon1S l _) ?_
  rintro r h' ⟨rfl, rfl⟩
  show zSem l ((D, cT, bs, ov, L, xs, Z) : zG) true 10 (zhd 186) [.ref 98] (znew zhC (0, 12)) _
  refine zSem.mono (zcon2W l _ hZ) ?_
  rintro r h' ⟨rfl, rfl⟩
  show zX l ((D, cT, bs, ov, L, xs, Z) : zG) true 11 zhL (zQL ((D, cT, bs, ov, L, xs, Z) : zG)) 143 13298 23 [(4, .int (Int32.ofInt 0)), (3, .ref 142), (2, .ref 98), (1, .ref 0), (0, .retAddr 10)] [] (_)
  refine zX_congr (g := zW zhC zhM 0) (by decide +kernel) (zX_al ?_)
  exact zlp l hl D cT bs ov xs Z hZ hL 513 0 zhC zhM 0 143 13298 (by omega) (by decide) zOK0 (by decide) (by decide)
