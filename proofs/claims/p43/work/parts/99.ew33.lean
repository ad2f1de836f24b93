/-! the calls in the class: what they do to the states -/
def MF9 : sM := [(43, 3, 4), (44, 0, 8), (45, 0, 8), (47, 0, 8), (86, 4, 5), (87, 0, 20), (88, 0, 20), (89, 0, 20), (90, 0, 20)]
theorem MF9_s : ((List.range 8).all fun f => (List.range 8).all fun q => ssubB (kdC_m f q) MF9 && ssubB [(44, f, f + 1), (45, f, f + 1)] MF9) = true := by decide
theorem puX_1 {X : zSx} {s' : zSt} : (puX X s').1 = s' := by
  unfold puX
  split <;> rfl
theorem puX_2 {X : zSx} {s' : zSt} : (puX X s').2.1 = X.2.1 := by
  unfold puX
  split <;> rfl
/-- from the state's relation on: what is told and the image stay -/
theorem SC.of {t : Nat} (ht : t < 2) {N : zN} {S : zS} {X X' : zSx} {h h' : zH} {md : sM} (C : SC t N S X h) (m : sMd md h h') (hc : ctb md = true) (h9 : smem md 0 9 = false) (hI : ∀ q, 49 ≤ q → q ≤ 54 → ∀ j, smem md q j = false) (e2 : X'.2.1 = X.2.1) (c : CS 43 X'.1 h') (u : UC X' h') : SC t N S X' h' :=
  ⟨C.1.md ht m hc, c, fun e => by
    rw [e2]
    exact (C.2.2.1 (by rw [← pI_md m h9]; exact e)).md m (fun q a b j => hI q a (by omega) j), u⟩
theorem MF9_b : ctb MF9 = true ∧ smem MF9 0 9 = false := by decide
theorem MF9_i : ∀ q, 49 ≤ q → q ≤ 54 → ∀ j, smem MF9 q j = false := fun q a b j => smemc (by omega) (smemc (by omega) (smemc (by omega) (smemc (by omega) (smemc (by omega) (smemc (by omega) (smemc (by omega) (smemc (by omega) (smemc (by omega) smem0))))))))
theorem zv_kdf1 : zcvB 91 15 7 1 92 = true := by decide +kernel
theorem zv_kdf2 : zcvB 91 26 10 4 93 = true := by decide +kernel
theorem fcFlip {l : Launch} {Γ : zG} {t : Nat} (ht : t < 2) {N : zN} {S : zS} {n : Int} {X : zSx} {h : zH} (hT : TB N S) (hX : XB S n X) (hi : sInv swC h) (C : SC t N S X h) (x : Int32) : zSem l Γ false 10 (zhd 91) [.ref 0, .int x] h (fun r h' => (∃ a : Int32, r = some (.int a) ∧ a.toInt = flN S X x.toInt) ∧ sInv swC h' ∧ sMd MF9 h h' ∧ SC t N S (flX S X x.toInt) h') := by
  have b1 := hT.1.2.1
  have no : ∀ (h' : zH) (r : Int32), sInv swC h' → sMd [] h h' → r.toInt = -1 → ¬ (0 ≤ x.toInt ∧ x.toInt < (S 1 : Int)) → (∃ a : Int32, (some (.int r) : Option Value) = some (.int a) ∧ a.toInt = flN S X x.toInt) ∧ sInv swC h' ∧ sMd MF9 h h' ∧ SC t N S (flX S X x.toInt) h' := fun h' r i1 m1 hr c => by
    have e : flX S X x.toInt = X := if_neg c
    rw [e]
    exact ⟨⟨r, rfl, hr.trans (if_neg c).symm⟩, i1, m1.sub rfl, C.of ht m1 rfl rfl (fun _ _ _ _ => rfl) rfl (C.2.1.md m1 (fun _ _ _ _ => rfl)) (C.2.2.2.md m1 (fun _ _ _ _ => rfl))⟩
  refine kdF0 (d := 9) (by omega) ht (n := (S 1 : Int)) hi (i32bd x) ⟨by omega, by omega⟩ rfl C.1.1.2.1.2.1 C.1.1.1 (fun lo1 h1 y0 i1 m1 e1 e2 e3 l0 l1 hy => ?_) (fun h' r i1 m1 e1 hr => no h' r i1 m1 hr (by omega)) (fun h' r i1 m1 e1 e2 hr => no h' r i1 m1 hr (by omega)) (fun h' r i1 m1 e1 e2 e3 hr => no h' r i1 m1 hr (by omega))
  obtain ⟨g, hg⟩ : ∃ g : Nat, x.toInt = (g : Int) := ⟨x.toInt.toNat, by omega⟩
  have g8 : g < 8 := by omega
  have eg : x.toInt.toNat = g := by omega
  have eX : flX S X x.toInt = puX X (swS X.1 g) := by
    unfold flX
    rw [if_pos ⟨by omega, by omega⟩, eg]
  have eA : flN S X x.toInt = X.1 1 g := by
    unfold flN
    rw [if_pos ⟨by omega, by omega⟩, eg]
  have s2 := zall_r (zall_r MF9_s g8) g8
  simp only [Bool.and_eq_true] at s2
  rw [eX, eA]
  have C1 : CS 43 X.1 h1 := C.2.1.md m1 (fun _ _ _ _ => rfl)
  refine zcallR (mi := 91) (as := [.int y0]) (rest := []) (q0 := 43) zv_kdf1 rfl (by decide) (shB (t := 0) (by decide) i1) ?_
  refine (C1.sw i1 (l := l) (Γ := Γ) (d := 8) g8 (hy.trans hg)).mono (fun v h2 hv => ?_)
  obtain ⟨rfl, i2, m2, C2⟩ := hv
  refine kdF1 (d := 9) (by omega) (x := x.toInt) i2 ⟨by omega, by omega⟩ l0 l1 (fun lo3 h3 y1 y2 y3 y4 i3 m3 z0 z1 w1 w2 w3 w4 => ?_)
  have U3 : UC X h3 := ((C.2.2.2.md m1 (fun _ _ _ _ => rfl)).md m2 (fun q a b j => smemc (by omega) (smemc (by omega) smem0))).md m3 (fun _ _ _ _ => rfl)
  refine zcallR (mi := 91) (as := [.int y1, .int y2, .int y3, .int y4]) (rest := []) (q0 := 86) zv_kdf2 rfl (by decide) (shU i3) ?_
  refine (U3.pu (s' := swS X.1 g) i3 hX.2.2.1 (l := l) (Γ := Γ) (d := 7) (kd := 0) (on := x.toInt) (ot := x.toInt) (gr := 0) (by decide) ⟨by omega, by omega⟩ ⟨by omega, by omega⟩ (by decide) (by rw [show unE 0 x.toInt x.toInt 0 (swS X.1 g) = swS (swS X.1 g) x.toInt.toNat from rfl, eg]; exact swS_i _ _) w4 w3 w2 w1).mono (fun v h4 hv => ?_)
  obtain ⟨rfl, i4, m4, U4⟩ := hv
  have C4 : CS 43 (swS X.1 g) h4 := (C2.md m3 (fun _ _ _ _ => rfl)).md m4 (fun q a b j => smemc (by omega) (smemc (by omega) (smemc (by omega) (smemc (by omega) (smemc (by omega) smem0)))))
  refine kdF2 (d := 9) (by omega) g8 (a := (swS X.1 g) 0 g) i4 (i32e (C4.1 g g8).1) z0 (by rw [← hg]; exact z1) (C4.1 g g8).1 (fun h5 r i5 m5 hr => ?_)
  have M : sMd MF9 h h5 := ((((m1.sub rfl).seq (m2.sub s2.2)).seq (m3.sub rfl)).seq (m4.sub rfl)).seq (m5.sub rfl)
  refine ⟨⟨r, rfl, hr.trans ?_⟩, i5, M, C.of ht M MF9_b.1 MF9_b.2 MF9_i puX_2 (by rw [puX_1]; exact C4.md m5 (fun _ _ _ _ => rfl)) (U4.md m5 (fun _ _ _ _ => rfl))⟩
  unfold swS
  rw [stS_n (by omega), stS_s]
theorem zv_kdy : zcvB 97 46 10 4 93 = true := by decide +kernel
theorem fcDry {l : Launch} {Γ : zG} {t : Nat} (ht : t < 2) {N : zN} {S : zS} {n : Int} {X : zSx} {h : zH} (hT : TB N S) (hX : XB S n X) (hi : sInv swC h) (C : SC t N S X h) (x : Int32) : zSem l Γ false 10 (zhd 97) [.ref 0, .int x] h (fun r h' => (∃ a : Int32, r = some (.int a) ∧ a.toInt = dyN S X x.toInt) ∧ sInv swC h' ∧ sMd MF9 h h' ∧ SC t N S (dyX S X x.toInt) h') := by
  have b1 := hT.1.2.1
  have hw : 0 ≤ pI h 43 3 ∧ pI h 43 3 ≤ 255 := ⟨C.2.1.2.2.2.1, by have := C.2.1.2.2.2.2.1; omega⟩
  have no : ∀ (h' : zH) (r : Int32), sInv swC h' → sMd [] h h' → r.toInt = 0 → ¬ ((0 ≤ x.toInt ∧ x.toInt < (S 1 : Int)) ∧ X.1 2 x.toInt.toNat = 1) → (∃ a : Int32, (some (.int r) : Option Value) = some (.int a) ∧ a.toInt = dyN S X x.toInt) ∧ sInv swC h' ∧ sMd MF9 h h' ∧ SC t N S (dyX S X x.toInt) h' := fun h' r i1 m1 hr c => by
    have e : dyX S X x.toInt = X := if_neg c
    rw [e]
    exact ⟨⟨r, rfl, hr.trans (if_neg c).symm⟩, i1, m1.sub rfl, C.of ht m1 rfl rfl (fun _ _ _ _ => rfl) rfl (C.2.1.md m1 (fun _ _ _ _ => rfl)) (C.2.2.2.md m1 (fun _ _ _ _ => rfl))⟩
  have wt : ∀ (g : Nat) w0 w1, g < 8 → w0 = sgfn 4 (pI h 43 3) (g : Int) → w1 = sgfn 2 w0 1 → w1 = X.1 2 g := fun g w0 w1 g8 e0 e1 => by
    rw [← C.2.1.2.2.2.2.2 g g8]
    unfold wbT
    rw [← e0, ← e1]
  refine kdY0 (d := 9) (by omega) ht (n := (S 1 : Int)) hi (i32bd x) ⟨by omega, by omega⟩ hw rfl C.1.1.2.1.2.1 rfl C.1.1.1 (fun lo1 h1 w0 w1 i1 m1 e0 e1 c1 c2 c3 c4 l0 l1 => ?_) (fun h' r i1 m1 e1 hr => no h' r i1 m1 hr (by omega)) (fun h' r i1 m1 e1 e2 hr => no h' r i1 m1 hr (by omega)) (fun h' w0 w1 r i1 m1 e0 e1 c1 c2 c3 c4 hr => no h' r i1 m1 hr (fun c => ?_)) (fun h' r i1 m1 e1 e2 e3 hr => no h' r i1 m1 hr (by omega))
  · obtain ⟨g, hg⟩ : ∃ g : Nat, x.toInt = (g : Int) := ⟨x.toInt.toNat, by omega⟩
    have g8 : g < 8 := by omega
    have eg : x.toInt.toNat = g := by omega
    have bt := (hX.1.1.1 g g8).2.2.1
    rw [hg] at e0
    have ew := wt g w0 w1 g8 e0 e1
    have s1 : X.1 2 g = 1 := by
      rw [← ew]
      rw [ew] at c4
      clear e0 e1
      omega
    clear e0 e1
    have eX : dyX S X x.toInt = puX X (stS X.1 2 g 0) := by
      unfold dyX
      rw [if_pos ⟨⟨by omega, by omega⟩, by rw [eg]; exact s1⟩, eg]
    have eA : dyN S X x.toInt = 1 := by
      unfold dyN
      rw [if_pos ⟨⟨by omega, by omega⟩, by rw [eg]; exact s1⟩]
    rw [eX, eA]
    have C1 : CS 43 X.1 h1 := C.2.1.md m1 (fun _ _ _ _ => rfl)
    have k1 : pI h1 43 3 = pI h 43 3 := pI_md m1 rfl
    refine kdY1 (d := 9) (by omega) (x := x.toInt) i1 ⟨by omega, by omega⟩ (by rw [k1]; exact hw) l0 l1 rfl (fun lo2 h2 w0 w1 w2 y0 y1 y2 y3 i2 m2 e0 e1 e2 k3 z0 z1 v0 v1 v2 v3 => ?_)
    have wo := wbN C1.2.2.2.1 C1.2.2.2.2.1 g8
    have C2 : CS 43 (stS X.1 2 g 0) h2 := by
      rw [e0, hg] at e1
      rw [e1] at e2
      exact wet_md C1 g8 (m2.sub rfl) (k3.trans e2) wo.1 wo.2
    clear e0 e1 e2
    have U2 : UC X h2 := (C.2.2.2.md m1 (fun _ _ _ _ => rfl)).md m2 (fun q a b j => smemc (by omega) smem0)
    refine zcallR (mi := 97) (as := [.int y0, .int y1, .int y2, .int y3]) (rest := []) (q0 := 86) zv_kdy rfl (by decide) (shU i2) ?_
    refine (U2.pu (s' := stS X.1 2 g 0) i2 hX.2.2.1 (l := l) (Γ := Γ) (d := 7) (kd := 2) (on := x.toInt) (ot := x.toInt) (gr := 0) (by decide) ⟨by omega, by omega⟩ ⟨by omega, by omega⟩ (by decide) (by rw [show unE 2 x.toInt x.toInt 0 (stS X.1 2 g 0) = stS (stS X.1 2 g 0) 2 x.toInt.toNat 1 from rfl, eg]; exact stS_ii s1.symm) v3 v2 v1 v0).mono (fun v h4 hv => ?_)
    obtain ⟨rfl, i4, m4, U4⟩ := hv
    have C4 : CS 43 (stS X.1 2 g 0) h4 := C2.md m4 (fun q a b j => smemc (by omega) (smemc (by omega) (smemc (by omega) (smemc (by omega) (smemc (by omega) smem0)))))
    refine kdY2 (d := 9) (by omega) i4 z0 (fun h5 r i5 m5 hr => ?_)
    have M : sMd MF9 h h5 := (((m1.sub rfl).seq (m2.sub rfl)).seq (m4.sub rfl)).seq (m5.sub rfl)
    exact ⟨⟨r, rfl, hr⟩, i5, M, C.of ht M MF9_b.1 MF9_b.2 MF9_i puX_2 (by rw [puX_1]; exact C4.md m5 (fun _ _ _ _ => rfl)) (U4.md m5 (fun _ _ _ _ => rfl))⟩
  · obtain ⟨g, hg⟩ : ∃ g : Nat, x.toInt = (g : Int) := ⟨x.toInt.toNat, by omega⟩
    have eg : x.toInt.toNat = g := by omega
    rw [hg] at e0
    have ew := wt g w0 w1 (by omega) e0 e1
    rw [eg, ← ew, c4] at c
    exact absurd c.2 (by decide)
theorem zv_kdp1 : zcvB 95 76 7 3 96 = true := by decide +kernel
theorem zv_kdp2 : zcvB 95 87 10 4 93 = true := by decide +kernel
theorem fcPour {l : Launch} {Γ : zG} {t : Nat} (ht : t < 2) {N : zN} {S : zS} {n : Int} {X : zSx} {h : zH} (hT : TB N S) (hX : XB S n X) (hn : n ≤ 1999990000) (hi : sInv swC h) (C : SC t N S X h) (x y z : Int32) : zSem l Γ false 10 (zhd 95) [.ref 0, .int x, .int y, .int z] h (fun r h' => (∃ a : Int32, r = some (.int a)) ∧ sInv swC h' ∧ sMd MF9 h h' ∧ SC t N S (poX S X x.toInt y.toInt z.toInt) h') := by
  have b1 := hT.1.2.1
  have no : ∀ (h' : zH) (r : Int32), sInv swC h' → sMd [] h h' → ¬ (((0 ≤ x.toInt ∧ x.toInt < (S 1 : Int)) ∧ (0 ≤ y.toInt ∧ y.toInt < (S 1 : Int)) ∧ x.toInt ≠ y.toInt ∧ 1 ≤ z.toInt ∧ z.toInt ≤ 999) ∧ z.toInt ≤ X.1 1 x.toInt.toNat ∧ X.1 0 y.toInt.toNat + z.toInt ≤ 999) → (∃ a : Int32, (some (.int r) : Option Value) = some (.int a)) ∧ sInv swC h' ∧ sMd MF9 h h' ∧ SC t N S (poX S X x.toInt y.toInt z.toInt) h' := fun h' r i1 m1 c => by
    have e : poX S X x.toInt y.toInt z.toInt = X := if_neg c
    rw [e]
    exact ⟨⟨r, rfl⟩, i1, m1.sub rfl, C.of ht m1 rfl rfl (fun _ _ _ _ => rfl) rfl (C.2.1.md m1 (fun _ _ _ _ => rfl)) (C.2.2.2.md m1 (fun _ _ _ _ => rfl))⟩
  refine kdP0 (d := 9) (by omega) ht (n := (S 1 : Int)) hi (i32bd x) (i32bd y) (i32bd z) ⟨by omega, by omega⟩ rfl rfl rfl C.1.1.2.1.2.1 C.1.1.1 (fun lo1 h1 i1 m1 e1 e2 e3 e4 e5 e6 e7 e8 e9 l0 l1 l2 l3 => ?_) (fun h' r i1 m1 e1 hr => no h' r i1 m1 (by omega)) (fun h' r i1 m1 e1 e2 hr => no h' r i1 m1 (by omega)) (fun h' r i1 m1 e1 e2 e3 e4 hr => no h' r i1 m1 (by omega)) (fun h' r i1 m1 e1 e2 e3 e4 e5 hr => no h' r i1 m1 (by omega)) (fun h' r i1 m1 e1 e2 e3 e4 e5 e6 e7 hr => no h' r i1 m1 (by omega)) (fun h' r i1 m1 e1 e2 e3 e4 e5 e6 e7 e8 hr => no h' r i1 m1 (by omega)) (fun h' r i1 m1 e1 e2 e3 e4 e5 e6 e7 e8 e9 hr => no h' r i1 m1 (by omega)) (fun h' r i1 m1 e1 e2 e3 e4 e5 e6 hr => no h' r i1 m1 (by omega)) (fun h' r i1 m1 e1 e2 e3 hr => no h' r i1 m1 (by omega))
  obtain ⟨f, hf⟩ : ∃ g : Nat, x.toInt = (g : Int) := ⟨x.toInt.toNat, by omega⟩
  obtain ⟨q, hq⟩ : ∃ g : Nat, y.toInt = (g : Int) := ⟨y.toInt.toNat, by omega⟩
  have f8 : f < 8 := by omega
  have q8 : q < 8 := by omega
  have ef : x.toInt.toNat = f := by omega
  have eq : y.toInt.toNat = q := by omega
  have s2 := zall_r (zall_r MF9_s f8) q8
  simp only [Bool.and_eq_true] at s2
  have C1 : CS 43 X.1 h1 := C.2.1.md m1 (fun _ _ _ _ => rfl)
  have bl := (C1.1 f f8).2.1
  have ab := (C1.1 q q8).1
  have w1 := (hX.1.1.1 f f8).2.1
  have w0 := (hX.1.1.1 q q8).1
  rw [ef, eq] at no
  have M1 : ∀ h2, sMd [] h1 h2 → sMd [] h h2 := fun h2 m2 => m1.seq m2
  refine kdP1 (d := 9) (by omega) (x := x.toInt) (y := y.toInt) (z := z.toInt) (bl := X.1 1 f) (ab := X.1 0 q) i1 ⟨by omega, by omega⟩ ⟨by omega, by omega⟩ ⟨by omega, by omega⟩ w1 w0 l0 l1 l2 l3 (by rw [show (x.toInt + 0).toNat = f from by omega]; exact bl) (by rw [show (y.toInt + 0).toNat = q from by omega]; exact ab) (fun lo2 h2 y0 y1 y2 i2 m2 c1 c2 z0 z1 z2 z3 v0 v1 v2 => ?_) (fun h2 r i2 m2 c1 c2 hr => no h2 r i2 (M1 h2 m2) (by omega)) (fun h2 r i2 m2 c1 hr => no h2 r i2 (M1 h2 m2) (by omega))
  have eX : poX S X x.toInt y.toInt z.toInt = puX X (coS X.1 f q z.toInt) := by
    unfold poX
    rw [if_pos ⟨⟨⟨by omega, by omega⟩, ⟨by omega, by omega⟩, by omega, by omega, by omega⟩, by rw [ef]; omega, by rw [eq]; omega⟩, ef, eq]
  rw [eX]
  have C2 : CS 43 X.1 h2 := C1.md m2 (fun _ _ _ _ => rfl)
  refine zcallR (mi := 95) (as := [.int y0, .int y1, .int y2]) (rest := []) (q0 := 43) zv_kdp1 rfl (by decide) (shB (t := 0) (by decide) i2) ?_
  refine (C2.co i2 hX.1.1 (by omega) (l := l) (Γ := Γ) (d := 8) f8 q8 (z := z.toInt) ⟨by omega, by omega⟩ (v2.trans hf) (v1.trans hq) v0).mono (fun v h3 hv => ?_)
  obtain ⟨rfl, i3, m3, C3⟩ := hv
  refine kdP2 (d := 9) (by omega) (x := x.toInt) (y := y.toInt) (z := z.toInt) i3 ⟨by omega, by omega⟩ ⟨by omega, by omega⟩ ⟨by omega, by omega⟩ z0 z1 z2 z3 (fun lo4 h4 y0 y1 y2 y3 i4 m4 z0 z1 v0 v1 v2 v3 => ?_)
  have U4 : UC X h4 := (((C.2.2.2.md m1 (fun _ _ _ _ => rfl)).md m2 (fun _ _ _ _ => rfl)).md m3 (fun q a b j => smemc (by omega) (smemc (by omega) (smemc (by omega) smem0)))).md m4 (fun _ _ _ _ => rfl)
  refine zcallR (mi := 95) (as := [.int y0, .int y1, .int y2, .int y3]) (rest := []) (q0 := 86) zv_kdp2 rfl (by decide) (shU i4) ?_
  refine (U4.pu (s' := coS X.1 f q z.toInt) i4 hX.2.2.1 (l := l) (Γ := Γ) (d := 7) (kd := 1) (on := x.toInt) (ot := y.toInt) (gr := z.toInt) (by decide) ⟨by omega, by omega⟩ ⟨by omega, by omega⟩ ⟨by omega, by omega⟩ (by rw [show unE 1 x.toInt y.toInt z.toInt (coS X.1 f q z.toInt) = coS (coS X.1 f q z.toInt) x.toInt.toNat y.toInt.toNat (-z.toInt) from rfl, ef, eq]; exact coS_i _ _ _ _) v3 v2 v1 v0).mono (fun v h5 hv => ?_)
  obtain ⟨rfl, i5, m5, U5⟩ := hv
  have C5 : CS 43 (coS X.1 f q z.toInt) h5 := (C3.md m4 (fun _ _ _ _ => rfl)).md m5 (fun q a b j => smemc (by omega) (smemc (by omega) (smemc (by omega) (smemc (by omega) (smemc (by omega) smem0)))))
  refine kdP3 (d := 9) (by omega) f8 (bl := (coS X.1 f q z.toInt) 1 f) i5 (i32e (C5.1 f f8).2.1) z0 (by rw [← hf]; exact z1) (C5.1 f f8).2.1 (fun h6 r i6 m6 hr => ?_)
  have M : sMd MF9 h h6 := (((((m1.sub rfl).seq (m2.sub rfl)).seq (m3.sub s2.1)).seq (m4.sub rfl)).seq (m5.sub rfl)).seq (m6.sub rfl)
  exact ⟨⟨r, rfl⟩, i6, M, C.of ht M MF9_b.1 MF9_b.2 MF9_i puX_2 (by rw [puX_1]; exact C5.md m6 (fun _ _ _ _ => rfl)) (U5.md m6 (fun _ _ _ _ => rfl))⟩
