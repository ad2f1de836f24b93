/-! man, on both sides -/
def maQ (N : zN) (S : zS) (s : zSt) (w : Nat) (x y : Int) : Int := if 0 ≤ x ∧ x < (S 0 : Int) then (if y = 0 then weQ N S s x else if y = 1 then (gN (maC N x) (S 1) 0 0 : Nat) else if y = 2 then ((gN (maC N x) (S 1) 0 0 &&& w : Nat) : Int) else -1) else -1
theorem zv_kqn1 : zcvB 78 45 7 2 80 = true := by decide +kernel
theorem zv_kqn2 : zcvB 78 54 4 1 81 = true := by decide +kernel
theorem zv_kqn3 : zcvB 78 63 4 1 81 = true := by decide +kernel
theorem zv_krn1 : zcvB 231 22 12 2 233 = true := by decide +kernel
theorem zv_krn2 : zcvB 231 36 12 2 234 = true := by decide +kernel
theorem zv_krn3 : zcvB 231 50 12 2 234 = true := by decide +kernel
theorem shT {t : Nat} (ht : t < 2) {h : zH} (hi : sInv swC h) : h.1[17 * t + 9]? = some (0, 4) := by
  rw [hi.1]
  rcases (by omega : t = 0 ∨ t = 1) with rfl | rfl <;> rfl
theorem zps5 (l : Launch) {f1 f2 : zH} {A : zGb} (g1 : zGC A f1) (g2 : zGM A f2) {n : Int} (_h0 : 0 ≤ n ∧ n ≤ 1990000000) (hb : zGB n A) (x y : Int32) : ∃ (a : Int32) (A' : zGb), zGB n A' ∧ (∀ Γ : zG, zSem l Γ false 10 (zhd 78) [.ref 0, .int x, .int y] f1 (fun r f => r = some (.int a) ∧ zGC A' f)) ∧ (∀ Γ : zG, zSem l Γ false 10 (zhd 231) [.ref 0, .int x, .int y] f2 (fun r f => r = some (.int a) ∧ zGM A' f)) := by
  obtain ⟨t, ht, C⟩ := g1.sc
  have T := C.1.1
  have hS := hb.2.1.1.2.1
  have hS0 := hb.2.1.1.1
  have hB := hb.2.2.1.1
  obtain ⟨w0, w1, w2⟩ := g1.2.1.2.2.2
  obtain ⟨w, hw⟩ : ∃ w : Nat, pI f1 43 3 = (w : Int) := ⟨(pI f1 43 3).toNat, by omega⟩
  rw [hw] at w2
  have hw256 : w < 256 := by omega
  have gb := gN_b (c := maC A.1.2.2.2.1 x.toInt) (A.1.2.2.2.2 1) 0 0 (by omega) (by decide)
  refine ⟨Int32.ofInt (maQ A.1.2.2.2.1 A.1.2.2.2.2 A.2.1 w x.toInt y.toInt), A, hb, fun Γ => ?_, fun Γ => ?_⟩
  · have fin : ∀ (h' : zH) (r : Int32), sInv swC h' → sMd [] f1 h' → r.toInt = maQ A.1.2.2.2.1 A.1.2.2.2.2 A.2.1 w x.toInt y.toInt → (some (Value.int r) = some (.int (Int32.ofInt (maQ A.1.2.2.2.1 A.1.2.2.2.2 A.2.1 w x.toInt y.toInt))) ∧ zGC A h') := fun h' r i m e => ⟨by rw [i32of e], g1.md i m (by decide +kernel) (by decide +kernel)⟩
    have no : ¬ (0 ≤ x.toInt ∧ x.toInt < (A.1.2.2.2.2 0 : Int)) → maQ A.1.2.2.2.1 A.1.2.2.2.2 A.2.1 w x.toInt y.toInt = -1 := fun h => if_neg h
    have yes : (0 ≤ x.toInt ∧ x.toInt < (A.1.2.2.2.2 0 : Int)) → maQ A.1.2.2.2.1 A.1.2.2.2.2 A.2.1 w x.toInt y.toInt = (if y.toInt = 0 then weQ A.1.2.2.2.1 A.1.2.2.2.2 A.2.1 x.toInt else if y.toInt = 1 then (gN (maC A.1.2.2.2.1 x.toInt) (A.1.2.2.2.2 1) 0 0 : Nat) else if y.toInt = 2 then ((gN (maC A.1.2.2.2.1 x.toInt) (A.1.2.2.2.2 1) 0 0 &&& w : Nat) : Int) else -1) := fun h => if_pos h
    refine kqN0 (d := 9) (by omega) ht (n := (A.1.2.2.2.2 0 : Int)) g1.1.1 (i32bd x) (i32bd y) (by omega) rfl rfl T.2.1.1 T.1 (fun lo1 h1 y0 i1 m1 c0 c1 c2 e0 => ?_) (fun lo1 h1 y0 i1 m1 c0 c1 c2 c3 e0 => ?_) (fun lo1 h1 y0 i1 m1 c0 c1 c2 c3 c4 l0 e0 => ?_) (fun h' r i m c e => fin h' r i (m.sub rfl) (e.trans (no (by omega)).symm)) (fun h' r i m c c' z0 z1 z2 e => fin h' r i (m.sub rfl) (e.trans ?_)) (fun h' r i m c c' e => fin h' r i (m.sub rfl) (e.trans (no (by omega)).symm))
    · have M1 : sMd [] f1 h1 := m1.sub rfl
      refine zcallR (mi := 78) (as := [.int y0, .ref (17 * t + 9)]) (rest := []) (q0 := 43) zv_kqn1 rfl (by decide) (shS i1) ?_
      refine (zWlC (d := 7) (u := 0) (s := A.2.1) ht (by decide) hS (CS.md C.2.1 M1 (fun _ _ _ _ => rfl)) (T.md ht M1 rfl) hB i1 e0).mono (fun v h2 hv => ?_)
      obtain ⟨a, rfl, ha, i2, m2⟩ := hv
      exact kqN1 (d := 9) (by omega) (v := a.toInt) i2 (i32bd a) rfl (fun h3 r i3 m3 hr => fin h3 r i3 ((M1.seq m2).seq (m3.sub rfl)) (by rw [hr, ha, yes ⟨by omega, by omega⟩, if_pos c2]))
    · have M1 : sMd [] f1 h1 := m1.sub rfl
      refine zcallR (mi := 78) (as := [.int y0]) (rest := []) (q0 := 17 * t + 9) zv_kqn2 rfl (by decide) (shT ht i1) ?_
      refine (zGoC (d := 7) ht hS (T.md ht M1 rfl) i1 e0).mono (fun v h2 hv => ?_)
      obtain ⟨a, rfl, ha, i2, m2⟩ := hv
      exact kqN2 (d := 9) (by omega) (v := a.toInt) i2 (i32bd a) rfl (fun h3 r i3 m3 hr => fin h3 r i3 ((M1.seq m2).seq (m3.sub rfl)) (by rw [hr, ha, yes ⟨by omega, by omega⟩, if_neg c3, if_pos c2]))
    · have M1 : sMd [] f1 h1 := m1.sub rfl
      refine zcallR (mi := 78) (as := [.int y0]) (rest := []) (q0 := 17 * t + 9) zv_kqn3 rfl (by decide) (shT ht i1) ?_
      refine (zGoC (d := 7) ht hS (T.md ht M1 rfl) i1 e0).mono (fun v h2 hv => ?_)
      obtain ⟨a, rfl, ha, i2, m2⟩ := hv
      exact kqN3 (d := 9) (by omega) (v := ((gN (maC A.1.2.2.2.1 x.toInt) (A.1.2.2.2.2 1) 0 0 : Nat) : Int)) (wv := (w : Int)) i2 (by omega) (by omega) l0 ha ((pI_md (M1.seq m2) rfl).trans hw) (fun h3 z r i3 m3 ez hr => fin h3 r i3 ((M1.seq m2).seq (m3.sub rfl)) (by rw [hr, ez, of_decide_eq_true (zall_r (zall_r anT gb) hw256), yes ⟨by omega, by omega⟩, if_neg c3, if_neg c4, if_pos c2]))
    · rw [yes ⟨by omega, by omega⟩, if_neg z0, if_neg z1, if_neg z2]
  · have fin : ∀ (h' : zH) (r : Int32), sInv swM h' → sMd [(0, 2, 3)] f2 h' → r.toInt = maQ A.1.2.2.2.1 A.1.2.2.2.2 A.2.1 w x.toInt y.toInt → (some (Value.int r) = some (.int (Int32.ofInt (maQ A.1.2.2.2.1 A.1.2.2.2.2 A.2.1 w x.toInt y.toInt))) ∧ zGM A h') := fun h' r i m e => ⟨by rw [i32of e], g2.md' i m (by decide +kernel)⟩
    have no : ¬ (0 ≤ x.toInt ∧ x.toInt < (A.1.2.2.2.2 0 : Int)) → maQ A.1.2.2.2.1 A.1.2.2.2.2 A.2.1 w x.toInt y.toInt = -1 := fun h => if_neg h
    have yes : (0 ≤ x.toInt ∧ x.toInt < (A.1.2.2.2.2 0 : Int)) → maQ A.1.2.2.2.1 A.1.2.2.2.2 A.2.1 w x.toInt y.toInt = (if y.toInt = 0 then weQ A.1.2.2.2.1 A.1.2.2.2.2 A.2.1 x.toInt else if y.toInt = 1 then (gN (maC A.1.2.2.2.1 x.toInt) (A.1.2.2.2.2 1) 0 0 : Nat) else if y.toInt = 2 then ((gN (maC A.1.2.2.2.1 x.toInt) (A.1.2.2.2.2 1) 0 0 &&& w : Nat) : Int) else -1) := fun h => if_pos h
    have Tm := g2.sm.1
    have Ms := g2.2.1
    refine krN0 (d := 9) (by omega) (n := (A.1.2.2.2.2 0 : Int)) g2.1.1 (i32bd x) (i32bd y) (by omega) rfl rfl Tm.1.1 (fun lo1 h1 y0 y1 i1 m1 c0 c1 c2 _ e0 e1 => ?_) (fun lo1 h1 y0 y1 i1 m1 c0 c1 c2 c3 _ e0 e1 => ?_) (fun lo1 h1 y0 y1 i1 m1 c0 c1 c2 c3 c4 _ e0 e1 => ?_) (fun h' r i m c _ e => fin h' r i (m.sub rfl) (e.trans (no (by omega)).symm)) (fun h' r i m c c' _ e => fin h' r i (m.sub rfl) (e.trans (no (by omega)).symm)) (fun h' r i m c c' z0 z1 z2 _ e => fin h' r i (m.sub rfl) (e.trans ?_))
    · have M1 : sMd [(0, 2, 3)] f2 h1 := m1.sub rfl
      refine zcallR (mi := 231) (as := [.int y0, .int y1]) (rest := []) (q0 := 0) zv_krn1 rfl (by decide) (shM i1) ?_
      refine (zWlM (d := 7) (k := 0) (s := A.2.1) (by decide) hS (Ms.m2 M1) (Tm.md M1 rfl) hB i1 e0 e1).mono (fun v h2 hv => ?_)
      obtain ⟨a, rfl, ha, i2, m2⟩ := hv
      exact krN1 (d := 9) (by omega) (v := a.toInt) i2 (i32bd a) rfl (fun h3 r i3 m3 hr => fin h3 r i3 ((M1.seq (m2.sub rfl)).seq (m3.sub rfl)) (by rw [hr, ha, yes ⟨by omega, by omega⟩, if_pos c2]))
    · have M1 : sMd [(0, 2, 3)] f2 h1 := m1.sub rfl
      refine zcallR (mi := 231) (as := [.int y0, .int y1]) (rest := []) (q0 := 0) zv_krn2 rfl (by decide) (shM i1) ?_
      refine (zGoM (d := 7) (s := A.2.1) hS (Ms.m2 M1) (Tm.md M1 rfl) hB i1 e1 e0).mono (fun v h2 hv => ?_)
      obtain ⟨a, rfl, ha, i2, m2⟩ := hv
      exact krN2 (d := 9) (by omega) (v := a.toInt) i2 (i32bd a) rfl (fun h3 r i3 m3 hr => fin h3 r i3 ((M1.seq (m2.sub rfl)).seq (m3.sub rfl)) (by rw [hr, ha, yes ⟨by omega, by omega⟩, if_neg c3, if_pos c2]))
    · have M1 : sMd [(0, 2, 3)] f2 h1 := m1.sub rfl
      refine zcallR (mi := 231) (as := [.int y0, .int y1]) (rest := []) (q0 := 0) zv_krn3 rfl (by decide) (shM i1) ?_
      refine (zGwM (d := 7) (s := A.2.1) hS (Ms.m2 M1) (Tm.md M1 rfl) hB i1 e1 e0).mono (fun v h2 hv => ?_)
      obtain ⟨a, rfl, ha, i2, m2⟩ := hv
      have eg : gN (maW A.1.2.2.2.1 A.2.1 x.toInt) (A.1.2.2.2.2 1) 0 0 = gN (maC A.1.2.2.2.1 x.toInt) (A.1.2.2.2.2 1) 0 0 &&& w := by
        rw [gN_and hw256 (A.1.2.2.2.2 1) 0 0 (by omega), Nat.zero_and]
        refine gN_c _ _ _ (fun j _ hj => ?_)
        unfold maW maC
        rw [w2 j (by omega)]
      exact krN3 (d := 9) (by omega) (v := a.toInt) i2 (i32bd a) rfl (fun h3 r i3 m3 hr => fin h3 r i3 ((M1.seq (m2.sub rfl)).seq (m3.sub rfl)) (by rw [hr, ha, eg, yes ⟨by omega, by omega⟩, if_neg c3, if_neg c4, if_pos c2]))
    · rw [yes ⟨by omega, by omega⟩, if_neg z0, if_neg z1, if_neg z2]
