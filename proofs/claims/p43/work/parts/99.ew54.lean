/-! wealth -/
def weV (N : zN) (s : zSt) (q : Int) (g : Nat) : Int := if N 2 g = q then s 0 g + s 1 g else 0
def weQ (N : zN) (S : zS) (s : zSt) (q : Int) : Int := suF (weV N s q) (S 1) 0 0
theorem suF_b {v : Nat → Int} {c : Int} : ∀ (m g : Nat) (a : Int), (∀ j, g ≤ j → j < g + m → 0 ≤ v j ∧ v j ≤ c) → a ≤ suF v m g a ∧ suF v m g a ≤ a + c * m
  | 0, g, a, h => by
    simp only [suF]
    omega
  | m + 1, g, a, h => by
    have e := h g (Nat.le_refl _) (by omega)
    have t := suF_b m (g + 1) (a + v g) (fun j a b => h j (by omega) (by omega))
    simp only [suF]
    have e2 : c * ((m + 1 : Nat) : Int) = c * (m : Int) + c := by
      rw [Int.natCast_add, Int.mul_add]
      show c * (m : Int) + c * 1 = _
      omega
    rw [e2]
    omega
theorem weQ_b {N : zN} {S : zS} {s : zSt} {q n : Int} (hS : S 1 ≤ 8) (hB : SB n s) : 0 ≤ weQ N S s q ∧ weQ N S s q ≤ 15984 := by
  have t := suF_b (v := weV N s q) (c := 1998) (S 1) 0 0 (fun j a b => by
    obtain ⟨w0, w1, -⟩ := hB.1 j (by omega)
    unfold weV
    split <;> omega)
  unfold weQ
  omega
theorem zWlC {l : Launch} {Γ : zG} {d : Nat} {h0 : zH} {s : zSt} {N : zN} {S : zS} {t u : Nat} (ht : t < 2) (hu : u < 2) (hS : S 1 ≤ 8) (hC : CS (12 * u + 43) s h0) (hT : CTt t N S h0) {n : Int} (hB : SB n s) (hi0 : sInv swC h0) {x : Int32} {q : Int} (hq : x.toInt = q) : zSem l Γ false (d + 2) (zhd 80) [.ref (12 * u + 43), .ref (17 * t + 9), .int x] h0 (fun r h' => ∃ a : Int32, r = some (.int a) ∧ a.toInt = weQ N S s q ∧ sInv swC h' ∧ sMd [] h0 h') := by
  have bq : -2147483648 ≤ q ∧ q ≤ 2147483647 := by rw [← hq]; exact i32bd x
  have loop : ∀ (m g : Nat) (a : Int) (lo : zL) (h : zH), g + m = S 1 → (0 ≤ a ∧ a ≤ 1998 * (g : Int)) → suF (weV N s q) m g a = weQ N S s q → sInv swC h → sMd [] h0 h → zget lo 0 = some (.ref (12 * u + 43)) → zget lo 1 = some (.ref (17 * t + 9)) → zI lo 2 q → zI lo 3 a → zI lo 4 (g : Int) → zX l Γ false (d + 2) (zhd 80) (zMQ' Γ false (zhd 80) (fun r h' => ∃ a : Int32, r = some (.int a) ∧ a.toInt = weQ N S s q ∧ sInv swC h' ∧ sMd [] h0 h')) 0 0 5 lo [] h := by
    intro m
    induction m with
    | zero =>
      intro g a lo h hg ha hv hi hm l0 l1 l2 l3 l4
      exact kqL2 (d := d + 1) (by omega) (g := g) (by omega) ht hu (n := (S 1 : Int)) hi bq (by omega) (by omega) l0 l1 l2 l3 l4 ((pI_md hm rfl).trans hT.2.1.2.1) (fun h' r i1 m1 hr => ⟨r, rfl, hr.trans hv, i1, hm.seq (m1.sub rfl)⟩)
    | succ m ih =>
      intro g a lo h hg ha hv hi hm l0 l1 l2 l3 l4
      have g8 : g < 8 := by omega
      obtain ⟨w0, w1, -⟩ := hB.1 g g8
      obtain ⟨c0, c1, -, -⟩ := hC.1 g g8
      have qw := (hT.2.2.1 g (by omega)).2.1
      simp only [suF] at hv
      refine kqL1 (d := d + 1) (by omega) g8 ht hu (n := (S 1 : Int)) (who := N 2 g) (ab := s 0 g) (bl := s 1 g) hi bq (by omega) (by omega) (by rw [← qw]; exact i32bd _) w0 w1 l0 l1 l2 l3 l4 ((pI_md hm rfl).trans hT.2.1.2.1) ((pI_md hm rfl).trans qw) ((pI_md hm rfl).trans c0) ((pI_md hm rfl).trans c1) (fun lo1 h1 i1 m1 c a0 a1 a2 a3 a4 => ?_) (fun lo1 h1 i1 m1 c a0 a1 a2 a3 a4 => ?_)
      · have e : weV N s q g = s 0 g + s 1 g := if_pos c
        rw [e] at hv
        exact ih (g + 1) (a + (s 0 g + s 1 g)) lo1 h1 (by omega) (by omega) hv i1 (hm.seq (m1.sub rfl)) a0 a1 a2 (by rw [← Int.add_assoc]; exact a3) (by rw [Int.natCast_add]; exact a4)
      · have e : weV N s q g = 0 := if_neg c
        rw [e] at hv
        exact ih (g + 1) (a + 0) lo1 h1 (by omega) (by omega) hv i1 (hm.seq (m1.sub rfl)) a0 a1 a2 (by rw [Int.add_zero]; exact a3) (by rw [Int.natCast_add]; exact a4)
  exact kqL0 (d := d + 1) (by omega) ht hu hi0 bq hq (fun lo1 h1 i1 m1 l0 l1 l2 l3 l4 => loop (S 1) 0 0 lo1 h1 (by omega) (by omega) rfl i1 (m1.sub rfl) l0 l1 l2 l3 l4)
theorem zWlM {l : Launch} {Γ : zG} {d : Nat} {h0 : zH} {s : zSt} {N : zN} {S : zS} {k : Nat} (hk : k < 2) (hS : S 1 ≤ 8) (hM : MS S k s h0) (hT : TMt N S h0) {n : Int} (hB : SB n s) (hi0 : sInv swM h0) {x y : Int32} {q : Int} (hq : x.toInt = q) (hy : y.toInt = (k : Int)) : zSem l Γ false (d + 2) (zhd 233) [.ref 0, .int y, .int x] h0 (fun r h' => ∃ a : Int32, r = some (.int a) ∧ a.toInt = weQ N S s q ∧ sInv swM h' ∧ sMd [] h0 h') := by
  have bq : -2147483648 ≤ q ∧ q ≤ 2147483647 := by rw [← hq]; exact i32bd x
  have loop : ∀ (m g : Nat) (a : Int) (lo : zL) (h : zH), g + m = S 1 → (0 ≤ a ∧ a ≤ 1998 * (g : Int)) → suF (weV N s q) m g a = weQ N S s q → sInv swM h → sMd [] h0 h → zget lo 0 = some (.ref 0) → zI lo 1 (k : Int) → zI lo 2 q → zI lo 3 a → zI lo 4 (g : Int) → zX l Γ false (d + 2) (zhd 233) (zMQ' Γ false (zhd 233) (fun r h' => ∃ a : Int32, r = some (.int a) ∧ a.toInt = weQ N S s q ∧ sInv swM h' ∧ sMd [] h0 h')) 0 0 5 lo [] h := by
    intro m
    induction m with
    | zero =>
      intro g a lo h hg ha hv hi hm l0 l1 l2 l3 l4
      exact krL2 (d := d + 1) (by omega) (g := g) (by omega) hk (n := (S 1 : Int)) hi bq (by omega) (by omega) l0 l1 l2 l3 l4 ((pI_md hm rfl).trans hT.1.2.1) (fun h' r i1 m1 hr => ⟨r, rfl, hr.trans hv, i1, hm.seq (m1.sub rfl)⟩)
    | succ m ih =>
      intro g a lo h hg ha hv hi hm l0 l1 l2 l3 l4
      have g8 : g < 8 := by omega
      obtain ⟨w0, w1, -⟩ := hB.1 g g8
      obtain ⟨c0, c1, -⟩ := hM.1 g (by omega)
      rw [show 8 * k + g = g + 8 * k from by omega] at c0 c1
      have qw := (hT.2.2.2.1 g (by omega)).2.1
      simp only [suF] at hv
      refine krL1 (d := d + 1) (by omega) g8 hk (n := (S 1 : Int)) (who := N 2 g) (ab := s 0 g) (bl := s 1 g) hi bq (by omega) (by omega) (by rw [← qw]; exact i32bd _) w0 w1 l0 l1 l2 l3 l4 ((pI_md hm rfl).trans hT.1.2.1) ((pI_md hm rfl).trans qw) ((pI_md hm rfl).trans c0) ((pI_md hm rfl).trans c1) (fun lo1 h1 i1 m1 c a0 a1 a2 a3 a4 => ?_) (fun lo1 h1 i1 m1 c a0 a1 a2 a3 a4 => ?_)
      · have e : weV N s q g = s 0 g + s 1 g := if_pos c
        rw [e] at hv
        exact ih (g + 1) (a + (s 0 g + s 1 g)) lo1 h1 (by omega) (by omega) hv i1 (hm.seq (m1.sub rfl)) a0 a1 a2 (by rw [← Int.add_assoc]; exact a3) (by rw [Int.natCast_add]; exact a4)
      · have e : weV N s q g = 0 := if_neg c
        rw [e] at hv
        exact ih (g + 1) (a + 0) lo1 h1 (by omega) (by omega) hv i1 (hm.seq (m1.sub rfl)) a0 a1 a2 (by rw [Int.add_zero]; exact a3) (by rw [Int.natCast_add]; exact a4)
  exact krL0 (d := d + 1) (by omega) hk hi0 bq hy hq (fun lo1 h1 i1 m1 l0 l1 l2 l3 l4 => loop (S 1) 0 0 lo1 h1 (by omega) (by omega) rfl i1 (m1.sub rfl) l0 l1 l2 l3 l4)
/-! even -/
def evQ (N : zN) (S : zS) (s : zSt) (x y : Int) : Int := if (0 ≤ x ∧ x < (S 0 : Int)) ∧ (0 ≤ y ∧ y < (S 0 : Int)) ∧ x ≠ y then sgfn 7 (-weQ N S s y + weQ N S s x) 2 else -2147483648
theorem zv_kqe1 : zcvB 138 34 7 2 80 = true := by decide +kernel
theorem zv_kqe2 : zcvB 138 46 7 2 80 = true := by decide +kernel
theorem zv_kre1 : zcvB 277 29 12 2 233 = true := by decide +kernel
theorem zv_kre2 : zcvB 277 35 12 2 233 = true := by decide +kernel
theorem shS {h : zH} (hi : sInv swC h) : h.1[43]? = some (0, 7) := by
  rw [hi.1]
  rfl
theorem zps19 (l : Launch) {f1 f2 : zH} {A : zGb} (g1 : zGC A f1) (g2 : zGM A f2) {n : Int} (_h0 : 0 ≤ n ∧ n ≤ 1990000000) (hb : zGB n A) (x y : Int32) : ∃ (a : Int32) (A' : zGb), zGB n A' ∧ (∀ Γ : zG, zSem l Γ false 10 (zhd 138) [.ref 0, .int x, .int y] f1 (fun r f => r = some (.int a) ∧ zGC A' f)) ∧ (∀ Γ : zG, zSem l Γ false 10 (zhd 277) [.ref 0, .int x, .int y] f2 (fun r f => r = some (.int a) ∧ zGM A' f)) := by
  obtain ⟨t, ht, C⟩ := g1.sc
  have T := C.1.1
  have hS := hb.2.1.1.2.1
  have hS0 := hb.2.1.1.1
  have hB := hb.2.2.1.1
  have wx := weQ_b (N := A.1.2.2.2.1) (S := A.1.2.2.2.2) (s := A.2.1) (q := x.toInt) hS hB
  have wy := weQ_b (N := A.1.2.2.2.1) (S := A.1.2.2.2.2) (s := A.2.1) (q := y.toInt) hS hB
  refine ⟨Int32.ofInt (evQ A.1.2.2.2.1 A.1.2.2.2.2 A.2.1 x.toInt y.toInt), A, hb, fun Γ => ?_, fun Γ => ?_⟩
  · have fin : ∀ (h' : zH) (r : Int32), sInv swC h' → sMd [] f1 h' → r.toInt = evQ A.1.2.2.2.1 A.1.2.2.2.2 A.2.1 x.toInt y.toInt → (some (Value.int r) = some (.int (Int32.ofInt (evQ A.1.2.2.2.1 A.1.2.2.2.2 A.2.1 x.toInt y.toInt))) ∧ zGC A h') := fun h' r i m e => ⟨by rw [i32of e], g1.md i m (by decide +kernel) (by decide +kernel)⟩
    have no : ¬ ((0 ≤ x.toInt ∧ x.toInt < (A.1.2.2.2.2 0 : Int)) ∧ (0 ≤ y.toInt ∧ y.toInt < (A.1.2.2.2.2 0 : Int)) ∧ x.toInt ≠ y.toInt) → evQ A.1.2.2.2.1 A.1.2.2.2.2 A.2.1 x.toInt y.toInt = -2147483648 := fun h => if_neg h
    refine kqE0 (d := 9) (by omega) ht (n := (A.1.2.2.2.2 0 : Int)) g1.1.1 (i32bd x) (i32bd y) (by omega) rfl rfl T.2.1.1 T.1 (fun lo1 h1 y0 i1 m1 c0 c1 c2 c3 c4 l0 l2 hy0 => ?_) (fun h' r i m c e => fin h' r i (m.sub rfl) (e.trans (no (by omega)).symm)) (fun h' r i m c c' c'' e => fin h' r i (m.sub rfl) (e.trans (no (by omega)).symm)) (fun h' r i m c c' c'' c3 c4 e => fin h' r i (m.sub rfl) (e.trans (no (by omega)).symm)) (fun h' r i m c c' c'' c3 e => fin h' r i (m.sub rfl) (e.trans (no (by omega)).symm)) (fun h' r i m c c' e => fin h' r i (m.sub rfl) (e.trans (no (by omega)).symm))
    refine zcallR (mi := 138) (as := [.int y0, .ref (17 * t + 9)]) (rest := []) (q0 := 43) zv_kqe1 rfl (by decide) (shS i1) ?_
    refine (zWlC (d := 7) (u := 0) (s := A.2.1) ht (by decide) hS (CS.md C.2.1 m1 (fun _ _ _ _ => rfl)) (T.md ht m1 rfl) hB i1 hy0).mono (fun v h2 hv => ?_)
    obtain ⟨a, rfl, ha, i2, m2⟩ := hv
    have M2 : sMd [] f1 h2 := (m1.sub rfl).seq m2
    refine kqE1 (d := 9) (by omega) ht i2 (i32bd y) wx l0 l2 ha ((M2 0 5 rfl).2.1.trans T.1) (fun lo3 h3 y0 y3 i3 m3 e0 e3 => ?_)
    have M3 : sMd [] f1 h3 := M2.seq (m3.sub rfl)
    refine zcallR (mi := 138) (as := [.int y0, .ref (17 * t + 9)]) (rest := [.int y3]) (q0 := 43) zv_kqe2 rfl (by show 1 ≤ 8; decide) (shS i3) ?_
    refine (zWlC (d := 7) (u := 0) (s := A.2.1) ht (by decide) hS (CS.md C.2.1 M3 (fun _ _ _ _ => rfl)) (T.md ht M3 rfl) hB i3 e0).mono (fun v h4 hv => ?_)
    obtain ⟨b, rfl, hb', i4, m4⟩ := hv
    refine kqE2 (d := 9) (by omega) i4 wy wx hb' e3 (fun h5 w0 r i5 m5 e5 hr => fin h5 r i5 ((M3.seq m4).seq (m5.sub rfl)) ?_)
    rw [hr, e5]
    exact (if_pos ⟨⟨by omega, by omega⟩, ⟨by omega, by omega⟩, c4⟩).symm
  · have fin : ∀ (h' : zH) (r : Int32), sInv swM h' → sMd [(0, 2, 3)] f2 h' → r.toInt = evQ A.1.2.2.2.1 A.1.2.2.2.2 A.2.1 x.toInt y.toInt → (some (Value.int r) = some (.int (Int32.ofInt (evQ A.1.2.2.2.1 A.1.2.2.2.2 A.2.1 x.toInt y.toInt))) ∧ zGM A h') := fun h' r i m e => ⟨by rw [i32of e], g2.md' i m (by decide +kernel)⟩
    have no : ¬ ((0 ≤ x.toInt ∧ x.toInt < (A.1.2.2.2.2 0 : Int)) ∧ (0 ≤ y.toInt ∧ y.toInt < (A.1.2.2.2.2 0 : Int)) ∧ x.toInt ≠ y.toInt) → evQ A.1.2.2.2.1 A.1.2.2.2.2 A.2.1 x.toInt y.toInt = -2147483648 := fun h => if_neg h
    have Tm := g2.sm.1
    have Ms := g2.2.1
    refine krE0 (d := 9) (by omega) (n := (A.1.2.2.2.2 0 : Int)) g2.1.1 (i32bd x) (i32bd y) (by omega) rfl rfl Tm.1.1 (fun lo1 h1 y0 y1 i1 m1 c0 c1 c2 c3 c4 _ l0 l2 hy0 hy1 => ?_) (fun h' r i m c _ e => fin h' r i (m.sub rfl) (e.trans (no (by omega)).symm)) (fun h' r i m c c' _ e => fin h' r i (m.sub rfl) (e.trans (no (by omega)).symm)) (fun h' r i m c c' c'' _ e => fin h' r i (m.sub rfl) (e.trans (no (by omega)).symm)) (fun h' r i m c c' c'' c3 _ e => fin h' r i (m.sub rfl) (e.trans (no (by omega)).symm)) (fun h' r i m c c' c'' c3 c4 _ e => fin h' r i (m.sub rfl) (e.trans (no (by omega)).symm))
    have k1 : ∀ h', sMd [(0, 2, 3)] f2 h' → MS A.1.2.2.2.2 0 A.2.1 h' ∧ TMt A.1.2.2.2.1 A.1.2.2.2.2 h' := fun h' m => ⟨Ms.m2 m, Tm.md m rfl⟩
    refine zcallR (mi := 277) (as := [.int y0, .int y1]) (rest := []) (q0 := 0) zv_kre1 rfl (by decide) (shM i1) ?_
    refine (zWlM (d := 7) (k := 0) (s := A.2.1) (by decide) hS (k1 h1 (m1.sub rfl)).1 (k1 h1 (m1.sub rfl)).2 hB i1 hy0 hy1).mono (fun v h2 hv => ?_)
    obtain ⟨a, rfl, ha, i2, m2⟩ := hv
    refine krE1 (d := 9) (by omega) i2 (i32bd y) wx l0 l2 ha (fun lo3 h3 y0 y2 y3 i3 m3 e0 e2 e3 => ?_)
    have M3 : sMd [(0, 2, 3)] f2 h3 := ((m1.sub rfl).seq (m2.sub rfl)).seq (m3.sub rfl)
    refine zcallR (mi := 277) (as := [.int y0, .int y2]) (rest := [.int y3]) (q0 := 0) zv_kre2 rfl (by show 1 ≤ 8; decide) (shM i3) ?_
    refine (zWlM (d := 7) (k := 0) (s := A.2.1) (by decide) hS (k1 h3 M3).1 (k1 h3 M3).2 hB i3 e0 e2).mono (fun v h4 hv => ?_)
    obtain ⟨b, rfl, hb', i4, m4⟩ := hv
    refine krE2 (d := 9) (by omega) i4 wy wx hb' e3 (fun h5 w0 r i5 m5 e5 hr => fin h5 r i5 ((M3.seq (m4.sub rfl)).seq (m5.sub rfl)) ?_)
    rw [hr, e5]
    exact (if_pos ⟨⟨by omega, by omega⟩, ⟨by omega, by omega⟩, c4⟩).symm
