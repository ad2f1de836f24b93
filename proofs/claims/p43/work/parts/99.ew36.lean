/-! the calls in the reference: what they do to the states -/
def IM (S : zS) (s : zSt) (h : zH) : Prop := (∀ g, g < S 1 → pI h 42 (g + 32 * 0) = s 0 g ∧ pI h 42 (g + 32 * 0 + 8) = s 1 g ∧ pI h 42 (g + 32 * 0 + 16) = s 2 g ∧ pI h 42 (g + 32 * 0 + 24) = s 4 g ∧ pI h 43 g = s 3 g) ∧ (∀ p, p < 10 → pI h 43 (p + 8) = s 5 p) ∧ pI h 43 19 = s 6 0 ∧ pI h 43 18 = s 6 1 ∧ pL h 0 85 = s 6 2
def SM (N : zN) (S : zS) (X : zSx) (h : zH) : Prop := TMt N S h ∧ LwT N S h ∧ MS S 0 X.1 h ∧ (pI h 0 82 = 1 → IM S X.2.1 h) ∧ UM S X h
theorem IM.md {S : zS} {s : zSt} {h h' : zH} {md : sM} (hI : IM S s h) (hm : sMd md h h') (h1 : ∀ j, smem md 42 j = false) (h2 : ∀ j, smem md 43 j = false) (h3 : smem md 0 85 = false) : IM S s h' :=
  ⟨fun g hg => by
    rw [pI_md hm (h1 _), pI_md hm (h1 _), pI_md hm (h1 _), pI_md hm (h1 _), pI_md hm (h2 _)]
    exact hI.1 g hg, fun p hp => (pI_md hm (h2 _)).trans (hI.2.1 p hp), (pI_md hm (h2 _)).trans hI.2.2.1, (pI_md hm (h2 _)).trans hI.2.2.2.1, (pL_md hm h3).trans hI.2.2.2.2⟩
theorem TL.md {N : zN} {S : zS} {h h' : zH} {md : sM} (hT : TMt N S h) (hL : LwT N S h) (hm : sMd md h h') (hb : tmb md = true) (h2 : ∀ q, 19 ≤ q → q < 25 → ∀ j, smem md q j = false) : TMt N S h' ∧ LwT N S h' :=
  ⟨hT.md hm hb, hL.kept (fun q' j e => pI_md hm (h2 q' (by omega) (by omega) j))⟩
def MF7 : sM := [(0, 2, 3), (0, 80, 81), (29, 0, 8), (30, 0, 8), (31, 0, 8), (33, 0, 8), (41, 0, 640)]
theorem MF7_n {q j : Nat} (h0 : q ≠ 0) (h1 : q < 29 ∨ q = 32 ∨ (33 < q ∧ q ≠ 41)) : smem MF7 q j = false := smemc (by omega) (smemc (by omega) (smemc (by omega) (smemc (by omega) (smemc (by omega) (smemc (by omega) (smemc (by omega) smem0))))))
theorem SM.of {N : zN} {S : zS} {X X' : zSx} {h h' : zH} (C : SM N S X h) (m : sMd MF7 h h') (e2 : X'.2.1 = X.2.1) (c : MS S 0 X'.1 h') (u : UM S X' h') : SM N S X' h' := by
  obtain ⟨t, w⟩ := TL.md C.1 C.2.1 m (by decide) (fun q a b j => MF7_n (by omega) (Or.inl (by omega)))
  exact ⟨t, w, c, fun e => by
    rw [e2]
    exact (C.2.2.2.1 (by rw [← pI_md m (q := 0) (j := 82) rfl]; exact e)).md m (fun j => MF7_n (by omega) (by omega)) (fun j => MF7_n (by omega) (by omega)) rfl, u⟩
theorem MS.sw {S : zS} {s : zSt} {h : zH} {n : Int} (hi : sInv swM h) (M : MS S 0 s h) (hB : SB n s) {l : Launch} {Γ : zG} {d g : Nat} (hg : g < 8) (hg1 : g < S 1) {x : Int32} (hx : x.toInt = (g : Int)) : zSem l Γ false (d + 1) (zhd 248) [.ref 0, .int x] h (fun r h' => r = none ∧ sInv swM h' ∧ sMd [(29, g, g + 1), (30, g, g + 1)] h h' ∧ MS S 0 (swS s g) h') := by
  obtain ⟨b1, b2, -⟩ := M.1 g hg1
  rw [show 8 * 0 + g = g from by omega] at b1 b2
  obtain ⟨w0, w1, -⟩ := hB.1 g hg
  refine kmSw (Nat.zero_le _) (r := g) (by omega) hi w0 w1 hx b1 b2 (fun h' i1 m1 k1 k0 => ⟨rfl, i1, m1, MS.mk (fun j hj => ?_) (fun j hj => ?_) (M.k2 m1 (fun j => smemc (by omega) (smemc (by omega) smem0))) (M.k3 m1 (fun j => smemc (by omega) (smemc (by omega) smem0))) (M.k4 m1 (fun j => smemc (by omega) (smemc (by omega) smem0))) (M.k5 m1 (fun j => smemc (by omega) (smemc (by omega) smem0))) (M.k6 m1 (smemc (by omega) (smemc (by omega) smem0)) (smemc (by omega) (smemc (by omega) smem0)) (smemc (by omega) (smemc (by omega) smem0)))⟩)
  · obtain ⟨c1, c2, -⟩ := M.1 j hj
    unfold swS
    by_cases e : j = g
    · subst e
      rw [stS_n (by omega), stS_s, show 8 * 0 + j = j from by omega]
      exact k0
    · rw [stS_n (by omega), stS_n (by omega)]
      exact (pI_md m1 (smemc (by omega) (smemc (by omega) smem0))).trans c1
  · obtain ⟨c1, c2, -⟩ := M.1 j hj
    unfold swS
    by_cases e : j = g
    · subst e
      rw [stS_s, show 8 * 0 + j = j from by omega]
      exact k1
    · rw [stS_n (by omega), stS_n (by omega)]
      exact (pI_md m1 (smemc (by omega) (smemc (by omega) smem0))).trans c2
theorem MF7_s : ((List.range 8).all fun f => (List.range 8).all fun q => ssubB (keP2_m f q) MF7 && (ssubB [(29, f, f + 1), (30, f, f + 1)] MF7 && (ssubB (keY2_m f) MF7 && (ssubB (keP3_m f) MF7 && ssubB [(29, q, q + 1)] MF7)))) = true := by decide
theorem MS.nil {S : zS} {s : zSt} {h h' : zH} (M : MS S 0 s h) (m : sMd [] h h') : MS S 0 s h' := M.md m (fun _ _ _ _ => rfl) rfl
theorem MS.m2 {S : zS} {s : zSt} {h h' : zH} (M : MS S 0 s h) (m : sMd [(0, 2, 3)] h h') : MS S 0 s h' := M.md m (fun q a b j => smemc (by omega) smem0) rfl
theorem zv_kef1 : zcvB 245 16 12 0 246 = true := by decide +kernel
theorem zv_kef2 : zcvB 245 21 12 1 248 = true := by decide +kernel
theorem fmFlip {l : Launch} {Γ : zG} {N : zN} {S : zS} {n : Int} {X : zSx} {h : zH} (hT : TB N S) (hX : XB S n X) (hi : sInv swM h) (C : SM N S X h) (x : Int32) : zSem l Γ false 10 (zhd 245) [.ref 0, .int x] h (fun r h' => (∃ a : Int32, r = some (.int a) ∧ a.toInt = flN S X x.toInt) ∧ sInv swM h' ∧ sMd MF7 h h' ∧ SM N S (flX S X x.toInt) h') := by
  have b1 := hT.1.2.1
  have no : ∀ (h' : zH) (r : Int32), sInv swM h' → sMd [(0, 2, 3)] h h' → r.toInt = -1 → ¬ (0 ≤ x.toInt ∧ x.toInt < (S 1 : Int)) → (∃ a : Int32, (some (.int r) : Option Value) = some (.int a) ∧ a.toInt = flN S X x.toInt) ∧ sInv swM h' ∧ sMd MF7 h h' ∧ SM N S (flX S X x.toInt) h' := fun h' r i1 m1 hr c => by
    have e : flX S X x.toInt = X := if_neg c
    rw [e]
    exact ⟨⟨r, rfl, hr.trans (if_neg c).symm⟩, i1, m1.sub rfl, C.of (m1.sub rfl) rfl (C.2.2.1.m2 m1) (C.2.2.2.2.md m1 rfl (fun j => smemc (by omega) smem0))⟩
  refine keF0 (d := 9) (by omega) (n := (S 1 : Int)) hi (i32bd x) ⟨by omega, by omega⟩ rfl C.1.1.2.1 (fun lo1 h1 i1 m1 e1 e2 k2 l0 l1 => ?_) (fun h' r i1 m1 e1 k2 hr => no h' r i1 m1 hr (by omega)) (fun h' r i1 m1 e1 e2 k2 hr => no h' r i1 m1 hr (by omega))
  obtain ⟨g, hg⟩ : ∃ g : Nat, x.toInt = (g : Int) := ⟨x.toInt.toNat, by omega⟩
  have g8 : g < 8 := by omega
  have eg : x.toInt.toNat = g := by omega
  have eX : flX S X x.toInt = puX X (swS X.1 g) := by
    unfold flX
    rw [if_pos ⟨by omega, by omega⟩, eg]
  have eA : flN S X x.toInt = X.1 1 g := by
    unfold flN
    rw [if_pos ⟨by omega, by omega⟩, eg]
  have s2 := zall_r (zall_r MF7_s g8) g8
  simp only [Bool.and_eq_true] at s2
  rw [eX, eA]
  refine zcallR (mi := 245) (as := []) (rest := []) (q0 := 0) zv_kef1 rfl (by decide) (shM i1) ?_
  refine (zRemM (d := 7) (s' := swS X.1 g) b1 i1 (C.2.2.1.m2 m1) (C.2.2.2.2.md m1 rfl (fun j => smemc (by omega) smem0)) hX.2.2.1).mono (fun v h2 hv => ?_)
  obtain ⟨rfl, i2, m2, U2⟩ := hv
  have M2 : MS S 0 X.1 h2 := (C.2.2.1.m2 m1).md m2 (fun q a b j => smemc (by omega) (smemc (by omega) smem0)) rfl
  refine keF1 (d := 9) (by omega) (x := x.toInt) i2 ⟨by omega, by omega⟩ l0 l1 (fun lo3 h3 y0 i3 m3 z0 z1 hy => ?_)
  refine zcallR (mi := 245) (as := [.int y0]) (rest := []) (q0 := 0) zv_kef2 rfl (by decide) (shM i3) ?_
  refine ((M2.nil m3).sw i3 hX.1.1 (l := l) (Γ := Γ) (d := 8) g8 (by omega) (hy.trans hg)).mono (fun v h4 hv => ?_)
  obtain ⟨rfl, i4, m4, M4⟩ := hv
  have e0 : (swS X.1 g) 0 g = X.1 1 g := by
    unfold swS
    rw [stS_n (by omega), stS_s]
  have k0 := (M4.1 g (by omega)).1
  rw [show 8 * 0 + g = g from by omega, e0] at k0
  have w1 := (hX.1.1.1 g g8).2.1
  refine keF2 (d := 9) (by omega) g8 (a := X.1 1 g) i4 w1 z0 (by rw [← hg]; exact z1) k0 (fun h5 r i5 m5 hr => ?_)
  have M : sMd MF7 h h5 := ((((m1.sub rfl).seq (m2.sub rfl)).seq (m3.sub rfl)).seq (m4.sub s2.2.1)).seq (m5.sub rfl)
  exact ⟨⟨r, rfl, hr⟩, i5, M, C.of M puX_2 (by rw [puX_1]; exact M4.nil m5) (((U2.md m3 rfl (fun _ => rfl)).md m4 (smemc (by omega) (smemc (by omega) smem0)) (fun j => smemc (by omega) (smemc (by omega) smem0))).md m5 rfl (fun _ => rfl))⟩
theorem zv_key : zcvB 251 25 12 0 246 = true := by decide +kernel
theorem fmDry {l : Launch} {Γ : zG} {N : zN} {S : zS} {n : Int} {X : zSx} {h : zH} (hT : TB N S) (hX : XB S n X) (hi : sInv swM h) (C : SM N S X h) (x : Int32) : zSem l Γ false 10 (zhd 251) [.ref 0, .int x] h (fun r h' => (∃ a : Int32, r = some (.int a) ∧ a.toInt = dyN S X x.toInt) ∧ sInv swM h' ∧ sMd MF7 h h' ∧ SM N S (dyX S X x.toInt) h') := by
  have b1 := hT.1.2.1
  have no : ∀ (h' : zH) (r : Int32), sInv swM h' → sMd [(0, 2, 3)] h h' → r.toInt = 0 → ¬ ((0 ≤ x.toInt ∧ x.toInt < (S 1 : Int)) ∧ X.1 2 x.toInt.toNat = 1) → (∃ a : Int32, (some (.int r) : Option Value) = some (.int a) ∧ a.toInt = dyN S X x.toInt) ∧ sInv swM h' ∧ sMd MF7 h h' ∧ SM N S (dyX S X x.toInt) h' := fun h' r i1 m1 hr c => by
    have e : dyX S X x.toInt = X := if_neg c
    rw [e]
    exact ⟨⟨r, rfl, hr.trans (if_neg c).symm⟩, i1, m1.sub rfl, C.of (m1.sub rfl) rfl (C.2.2.1.m2 m1) (C.2.2.2.2.md m1 rfl (fun j => smemc (by omega) smem0))⟩
  refine keY0 (d := 9) (by omega) (n := (S 1 : Int)) hi (i32bd x) ⟨by omega, by omega⟩ rfl C.1.1.2.1 (fun lo1 h1 i1 m1 e1 e2 k2 l0 l1 => ?_) (fun h' r i1 m1 e1 k2 hr => no h' r i1 m1 hr (by omega)) (fun h' r i1 m1 e1 e2 k2 hr => no h' r i1 m1 hr (by omega))
  obtain ⟨g, hg⟩ : ∃ g : Nat, x.toInt = (g : Int) := ⟨x.toInt.toNat, by omega⟩
  have g8 : g < 8 := by omega
  have eg : x.toInt.toNat = g := by omega
  have bt := (hX.1.1.1 g g8).2.2.1
  have M1 := C.2.2.1.m2 m1
  have w1 := (M1.1 g (by omega)).2.2.1
  rw [show 8 * 0 + g = g from by omega] at w1
  have s2 := zall_r (zall_r MF7_s g8) g8
  simp only [Bool.and_eq_true] at s2
  refine keY1 (d := 9) (by omega) g8 (w := X.1 2 g) i1 ⟨by omega, by omega⟩ l0 (by rw [← hg]; exact l1) w1 (fun lo2 h2 i2 m2 e z0 z1 => ?_) (fun h2 r i2 m2 e hr => ?_)
  · have s1 : X.1 2 g = 1 := by omega
    have eX : dyX S X x.toInt = puX X (stS X.1 2 g 0) := by
      unfold dyX
      rw [if_pos ⟨⟨by omega, by omega⟩, by rw [eg]; exact s1⟩, eg]
    have eA : dyN S X x.toInt = 1 := by
      unfold dyN
      rw [if_pos ⟨⟨by omega, by omega⟩, by rw [eg]; exact s1⟩]
    rw [eX, eA]
    refine zcallR (mi := 251) (as := []) (rest := []) (q0 := 0) zv_key rfl (by decide) (shM i2) ?_
    refine (zRemM (d := 7) (s' := stS X.1 2 g 0) b1 i2 (M1.nil m2) ((C.2.2.2.2.md m1 rfl (fun j => smemc (by omega) smem0)).md m2 rfl (fun _ => rfl)) hX.2.2.1).mono (fun v h3 hv => ?_)
    obtain ⟨rfl, i3, m3, U3⟩ := hv
    have M3 : MS S 0 X.1 h3 := (M1.nil m2).md m3 (fun q a b j => smemc (by omega) (smemc (by omega) smem0)) rfl
    refine keY2 (d := 9) (by omega) g8 i3 z0 z1 (fun h4 r i4 m4 k hr => ?_)
    have M : sMd MF7 h h4 := (((m1.sub rfl).seq (m2.sub rfl)).seq (m3.sub rfl)).seq (m4.sub s2.2.2.1)
    refine ⟨⟨r, rfl, hr⟩, i4, M, C.of M puX_2 ?_ (U3.md m4 (smemc (by omega) smem0) (fun j => smemc (by omega) smem0))⟩
    rw [puX_1]
    refine MS.mk (M3.k0 m4 (fun j => smemc (by omega) smem0)) (M3.k1 m4 (fun j => smemc (by omega) smem0)) (upS (f := fun j => pI h4 31 (8 * 0 + j)) (s := X.1) (fun j hj hn => (pI_md m4 (smemc (by omega) smem0)).trans (M3.1 j hj).2.2.1) ?_) (M3.k3 m4 (fun j => smemc (by omega) smem0)) (M3.k4 m4 (fun j => smemc (by omega) smem0)) (M3.k5 m4 (fun j => smemc (by omega) smem0)) (M3.k6 m4 (smemc (by omega) smem0) (smemc (by omega) smem0) (smemc (by omega) smem0))
    rw [show 8 * 0 + g = g from by omega]
    exact k
  · refine no h2 r i2 (m1.seq (m2.sub rfl)) hr (fun c => ?_)
    rw [eg, e] at c
    exact absurd c.2 (by decide)
theorem zv_kep : zcvB 249 55 12 0 246 = true := by decide +kernel
theorem zia_p : ziaB 249 77 = true := by decide +kernel
theorem sh1M {q n : Nat} (e : swM.1[q]? = some (1, n)) {h : zH} (hi : sInv swM h) : h.1[q]? = some (1, n) := by
  rw [hi.1]
  exact e
theorem sf29 : sfree swM 29 0 = true := by decide +kernel
theorem fmPour {l : Launch} {Γ : zG} {N : zN} {S : zS} {n : Int} {X : zSx} {h : zH} (hT : TB N S) (hX : XB S n X) (hn : n ≤ 1999990000) (hi : sInv swM h) (C : SM N S X h) (x y z : Int32) : zSem l Γ false 10 (zhd 249) [.ref 0, .int x, .int y, .int z] h (fun r h' => (∃ a : Int32, r = some (.int a)) ∧ sInv swM h' ∧ sMd MF7 h h' ∧ SM N S (poX S X x.toInt y.toInt z.toInt) h') := by
  have b1 := hT.1.2.1
  have no : ∀ (h' : zH) (r : Int32), sInv swM h' → sMd [(0, 2, 3)] h h' → ¬ (((0 ≤ x.toInt ∧ x.toInt < (S 1 : Int)) ∧ (0 ≤ y.toInt ∧ y.toInt < (S 1 : Int)) ∧ x.toInt ≠ y.toInt ∧ 1 ≤ z.toInt ∧ z.toInt ≤ 999) ∧ z.toInt ≤ X.1 1 x.toInt.toNat ∧ X.1 0 y.toInt.toNat + z.toInt ≤ 999) → (∃ a : Int32, (some (.int r) : Option Value) = some (.int a)) ∧ sInv swM h' ∧ sMd MF7 h h' ∧ SM N S (poX S X x.toInt y.toInt z.toInt) h' := fun h' r i1 m1 c => by
    have e : poX S X x.toInt y.toInt z.toInt = X := if_neg c
    rw [e]
    exact ⟨⟨r, rfl⟩, i1, m1.sub rfl, C.of (m1.sub rfl) rfl (C.2.2.1.m2 m1) (C.2.2.2.2.md m1 rfl (fun j => smemc (by omega) smem0))⟩
  refine keP0 (d := 9) (by omega) (n := (S 1 : Int)) hi (i32bd x) (i32bd y) (i32bd z) ⟨by omega, by omega⟩ rfl rfl rfl C.1.1.2.1 (fun lo1 h1 i1 m1 e1 e2 e4 e5 e7 e8 e9 k2 l0 l1 l2 l3 => ?_) (fun h' r i1 m1 e1 k2 hr => no h' r i1 m1 (by omega)) (fun h' r i1 m1 e1 e2 k2 hr => no h' r i1 m1 (by omega)) (fun h' r i1 m1 e1 e2 e3 k2 hr => no h' r i1 m1 (by omega)) (fun h' r i1 m1 e1 e2 e3 e4 k2 hr => no h' r i1 m1 (by omega)) (fun h' r i1 m1 e1 e2 e3 e4 e5 k2 hr => no h' r i1 m1 (by omega)) (fun h' r i1 m1 e1 e2 e3 e4 e5 e6 k2 hr => no h' r i1 m1 (by omega)) (fun h' r i1 m1 e1 e2 e3 e4 e5 e6 e7 k2 hr => no h' r i1 m1 (by omega))
  obtain ⟨f, hf⟩ : ∃ g : Nat, x.toInt = (g : Int) := ⟨x.toInt.toNat, by omega⟩
  obtain ⟨q, hq⟩ : ∃ g : Nat, y.toInt = (g : Int) := ⟨y.toInt.toNat, by omega⟩
  have f8 : f < 8 := by omega
  have q8 : q < 8 := by omega
  have ef : x.toInt.toNat = f := by omega
  have eq : y.toInt.toNat = q := by omega
  have s2 := zall_r (zall_r MF7_s f8) q8
  simp only [Bool.and_eq_true] at s2
  have M1 := C.2.2.1.m2 m1
  have bl := (M1.1 f (by omega)).2.1
  have ab := (M1.1 q (by omega)).1
  rw [show 8 * 0 + f = f from by omega] at bl
  rw [show 8 * 0 + q = q from by omega] at ab
  have w1 := (hX.1.1.1 f f8).2.1
  have w0 := (hX.1.1.1 q q8).1
  have w4 := (hX.1.1.1 f f8).2.2.2.2
  rw [ef, eq] at no
  refine keP1 (d := 9) (by omega) (x := x.toInt) (y := y.toInt) (z := z.toInt) (bl := X.1 1 f) (ab := X.1 0 q) i1 ⟨by omega, by omega⟩ ⟨by omega, by omega⟩ ⟨by omega, by omega⟩ w1 w0 l0 l1 l2 l3 (by rw [show (x.toInt + 0).toNat = f from by omega]; exact bl) (by rw [show (y.toInt + 0).toNat = q from by omega]; exact ab) (fun lo2 h2 i2 m2 c1 c2 z0 z1 z2 z3 => ?_) (fun h2 r i2 m2 c1 c2 hr => no h2 r i2 (m1.seq (m2.sub rfl)) (by omega)) (fun h2 r i2 m2 c1 hr => no h2 r i2 (m1.seq (m2.sub rfl)) (by omega))
  have eX : poX S X x.toInt y.toInt z.toInt = puX X (coS X.1 f q z.toInt) := by
    unfold poX
    rw [if_pos ⟨⟨⟨by omega, by omega⟩, ⟨by omega, by omega⟩, by omega, by omega, by omega⟩, by rw [ef]; omega, by rw [eq]; omega⟩, ef, eq]
  rw [eX]
  refine zcallR (mi := 249) (as := []) (rest := []) (q0 := 0) zv_kep rfl (by decide) (shM i2) ?_
  refine (zRemM (d := 7) (s' := coS X.1 f q z.toInt) b1 i2 (M1.nil m2) ((C.2.2.2.2.md m1 rfl (fun j => smemc (by omega) smem0)).md m2 rfl (fun _ => rfl)) hX.2.2.1).mono (fun v h3 hv => ?_)
  obtain ⟨rfl, i3, m3, U3⟩ := hv
  have M3 : MS S 0 X.1 h3 := (M1.nil m2).md m3 (fun q a b j => smemc (by omega) (smemc (by omega) smem0)) rfl
  have bl3 := (M3.1 f (by omega)).2.1
  have ab3 := (M3.1 q (by omega)).1
  have pd3 := (M3.1 f (by omega)).2.2.2.2
  rw [show 8 * 0 + f = f from by omega] at bl3 pd3
  rw [show 8 * 0 + q = q from by omega] at ab3
  refine keP2 (d := 9) (by omega) f8 q8 (z := z.toInt) (bl := X.1 1 f) (ab := X.1 0 q) i3 ⟨by omega, by omega⟩ w1 w0 z0 (by rw [← hf]; exact z1) (by rw [← hq]; exact z2) z3 bl3 ab3 (by omega) (fun lo4 h4 y0 y1 i4 m4 k30 v0 v1 v2 v3 hy0 hy1 => ?_)
  have s29 : ((List.range 8).all fun g => decide (sIv swM 29 g = (0, 999))) = true := by decide +kernel
  have iv := of_decide_eq_true (zall_r s29 q8)
  refine zias zia_p (sh1M (n := 16) (by decide +kernel) i4) (j := q) hy1 (by omega) ?_
  have i5 : sInv swM (zsI h4 29 q y0) := i4.set (by rw [iv, hy0]; show (0 : Int) ≤ _; omega) (by rw [iv, hy0]; show _ ≤ (999 : Int); omega) sf29 (Nat.zero_le _)
  have m5 := zsI_md (h := h4) (q := 29) (j := q) (v := y0)
  have a5 := zsI_at (h := h4) (q := 29) (j := q) (v := y0)
  refine keP3 (d := 9) (by omega) f8 (z := z.toInt) (bl := X.1 1 f - z.toInt) (pd := X.1 4 f) i5 ⟨by omega, by omega⟩ ⟨by omega, by omega⟩ ⟨by omega, by omega⟩ v0 v1 v3 ((pI_md m5 (smemc (by omega) smem0)).trans (k30.trans (by omega))) ((pI_md m5 (smemc (by omega) smem0)).trans ((pI_md m4 (smemc (by omega) smem0)).trans pd3)) (fun h6 r i6 m6 k33 hr => ?_)
  have M : sMd MF7 h h6 := (((((m1.sub rfl).seq (m2.sub rfl)).seq (m3.sub rfl)).seq (m4.sub s2.1)).seq (m5.sub s2.2.2.2.2)).seq (m6.sub s2.2.2.2.1)
  refine ⟨⟨r, rfl⟩, i6, M, C.of M puX_2 ?_ (((U3.md m4 (smemc (by omega) smem0) (fun j => smemc (by omega) smem0)).md m5 (smemc (by omega) smem0) (fun j => smemc (by omega) smem0)).md m6 (smemc (by omega) smem0) (fun j => smemc (by omega) smem0))⟩
  rw [puX_1]
  have e30 : ∀ j, pI h6 30 j = pI h4 30 j := fun j => (pI_md m6 (smemc (by omega) smem0)).trans (pI_md m5 (smemc (by omega) smem0))
  have e29 : ∀ j, pI h6 29 j = pI (zsI h4 29 q y0) 29 j := fun j => pI_md m6 (smemc (by omega) smem0)
  have e33 : ∀ j, pI (zsI h4 29 q y0) 33 j = pI h3 33 j := fun j => (pI_md m5 (smemc (by omega) smem0)).trans (pI_md m4 (smemc (by omega) smem0))
  have M6 : MS S 0 X.1 h3 := M3
  have far : ∀ q' j, q' ≠ 29 → q' ≠ 30 → q' ≠ 33 → pI h6 q' j = pI h3 q' j := fun q' j a b c => (pI_md m6 (smemc (by omega) smem0)).trans ((pI_md m5 (smemc (by omega) smem0)).trans (pI_md m4 (smemc (by omega) smem0)))
  refine MS.mk (upS (f := fun j => pI h6 29 (8 * 0 + j)) (s := stS (stS X.1 1 f (X.1 1 f - z.toInt)) 4 f (X.1 4 f + z.toInt)) (fun j hj hn => ?_) ?_) (upS (f := fun j => pI h6 30 (8 * 0 + j)) (s := X.1) (fun j hj hn => ?_) ?_) (fun j hj => (far 31 _ (by decide) (by decide) (by decide)).trans (M6.1 j hj).2.2.1) (fun j hj => (far 32 _ (by decide) (by decide) (by decide)).trans (M6.1 j hj).2.2.2.1) (upS (f := fun j => pI h6 33 (8 * 0 + j)) (s := stS X.1 1 f (X.1 1 f - z.toInt)) (fun j hj hn => ?_) ?_) (fun p hp => (far 34 _ (by decide) (by decide) (by decide)).trans (M6.2.1 p hp)) ⟨(far 36 _ (by decide) (by decide) (by decide)).trans M6.2.2.1, (far 35 _ (by decide) (by decide) (by decide)).trans M6.2.2.2.1, (pL_md m6 (smemc (by omega) smem0)).trans ((pL_md m5 (smemc (by omega) smem0)).trans ((pL_md m4 (smemc (by omega) smem0)).trans M6.2.2.2.2))⟩
  · show pI h6 29 (8 * 0 + j) = X.1 0 j
    rw [e29, pI_md m5 (smemc (by omega) smem0), pI_md m4 (smemc (by omega) smem0)]
    exact (M6.1 j hj).1
  · show pI h6 29 (8 * 0 + q) = X.1 0 q + z.toInt
    rw [show 8 * 0 + q = q from by omega, e29, a5, hy0]
    omega
  · show pI h6 30 (8 * 0 + j) = X.1 1 j
    rw [e30, pI_md m4 (smemc (by omega) smem0)]
    exact (M6.1 j hj).2.1
  · show pI h6 30 (8 * 0 + f) = X.1 1 f - z.toInt
    rw [show 8 * 0 + f = f from by omega, e30, k30]
    omega
  · show pI h6 33 (8 * 0 + j) = X.1 4 j
    rw [pI_md m6 (smemc (by omega) smem0), e33]
    exact (M6.1 j hj).2.2.2.2
  · show pI h6 33 (8 * 0 + f) = X.1 4 f + z.toInt
    rw [show 8 * 0 + f = f from by omega, k33]
    omega
