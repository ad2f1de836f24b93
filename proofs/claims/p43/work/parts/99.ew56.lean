/-! richest -/
def rxF (w : Int → Int) : Nat → Nat → Int → Int
  | 0, _, b => b
  | m + 1, p, b => rxF w m (p + 1) (if b < 0 ∨ w b < w (p : Int) then (p : Int) else b)
theorem zv_kqm : zcvB 142 23 7 2 80 = true := by decide +kernel
theorem zv_krm1 : zcvB 280 19 12 2 233 = true := by decide +kernel
theorem zv_krm2 : zcvB 280 25 12 2 233 = true := by decide +kernel
theorem zv_kqr : zcvB 141 8 7 1 142 = true := by decide +kernel
theorem zv_krr : zcvB 279 7 12 1 280 = true := by decide +kernel
theorem shBu {u : Nat} (hu : u < 2) {h : zH} (hi : sInv swC h) : h.1[12 * u + 43]? = some (0, 7) := by
  rw [hi.1]
  rcases (by omega : u = 0 ∨ u = 1) with rfl | rfl <;> rfl
theorem zRiC {l : Launch} {Γ : zG} {d : Nat} {h0 : zH} {s : zSt} {N : zN} {S : zS} {t u : Nat} (ht : t < 2) (hu : u < 2) (hS0 : S 0 ≤ 5) (hS : S 1 ≤ 8) (hC : CS (12 * u + 43) s h0) (hT : CTt t N S h0) {n : Int} (hB : SB n s) (hi0 : sInv swC h0) : zSem l Γ false (d + 3) (zhd 142) [.ref (12 * u + 43), .ref (17 * t + 9)] h0 (fun r h' => ∃ a : Int32, r = some (.int a) ∧ a.toInt = rxF (weQ N S s) (S 0) 0 (-1) ∧ sInv swC h' ∧ sMd [] h0 h') := by
  have wb : ∀ q, 0 ≤ weQ N S s q ∧ weQ N S s q ≤ 15984 := fun q => weQ_b hS hB
  have loop : ∀ (m p : Nat) (b bv : Int) (lo : zL) (h : zH), p + m = S 0 → ((b = -1 ∧ bv = -1) ∨ (0 ≤ b ∧ b < (p : Int) ∧ bv = weQ N S s b)) → rxF (weQ N S s) m p b = rxF (weQ N S s) (S 0) 0 (-1) → sInv swC h → sMd [] h0 h → zget lo 0 = some (.ref (12 * u + 43)) → zget lo 1 = some (.ref (17 * t + 9)) → zI lo 2 b → zI lo 3 bv → zI lo 4 (p : Int) → zX l Γ false (d + 3) (zhd 142) (zMQ' Γ false (zhd 142) (fun r h' => ∃ a : Int32, r = some (.int a) ∧ a.toInt = rxF (weQ N S s) (S 0) 0 (-1) ∧ sInv swC h' ∧ sMd [] h0 h')) 0 0 7 lo [] h := by
    intro m
    induction m with
    | zero =>
      intro p b bv lo h hp hb hv hi hm l0 l1 l2 l3 l4
      have bb : -1 ≤ bv ∧ bv ≤ 15984 := by
        rcases hb with ⟨e1, e2⟩ | ⟨e1, e2, e3⟩
        · omega
        · have := wb b
          omega
      exact kqM3 (d := d + 2) (by omega) (p := p) (by omega) ht hu (n := (S 0 : Int)) hi (by omega) bb (by omega) l0 l1 l2 l3 l4 ((pI_md hm rfl).trans hT.2.1.1) (fun h' r i1 m1 hr => ⟨r, rfl, hr.trans hv, i1, hm.seq (m1.sub rfl)⟩)
    | succ m ih =>
      intro p b bv lo h hp hb hv hi hm l0 l1 l2 l3 l4
      have bb : -1 ≤ bv ∧ bv ≤ 15984 := by
        rcases hb with ⟨e1, e2⟩ | ⟨e1, e2, e3⟩
        · omega
        · have := wb b
          omega
      simp only [rxF] at hv
      refine kqM1 (d := d + 2) (by omega) (p := p) (by omega) ht hu (n := (S 0 : Int)) hi (by omega) bb (by omega) l0 l1 l2 l3 l4 ((pI_md hm rfl).trans hT.2.1.1) (fun lo1 h1 y0 i1 m1 a0 a1 a2 a3 a4 hy => ?_)
      have M1 : sMd [] h0 h1 := hm.seq (m1.sub rfl)
      refine zcallR (mi := 142) (as := [.int y0, .ref (17 * t + 9)]) (rest := []) (q0 := 12 * u + 43) zv_kqm rfl (by decide) (shBu hu i1) ?_
      refine (zWlC (d := d) (u := u) (s := s) ht hu hS (CS.md hC M1 (fun _ _ _ _ => rfl)) (hT.md ht M1 rfl) hB i1 hy).mono (fun v h2 hv2 => ?_)
      obtain ⟨a, rfl, ha, i2, m2⟩ := hv2
      refine kqM2 (d := d + 2) (by omega) (p := p) (by omega) ht hu i2 (by omega) bb (wb (p : Int)) a0 a1 a2 a3 a4 ha (fun lo3 h3 i3 m3 c b0 b1 b2 b3 b4 => ?_) (fun lo3 h3 i3 m3 c b0 b1 b2 b3 b4 => ?_)
      · have hn : ¬ (b < 0 ∨ weQ N S s b < weQ N S s (p : Int)) := by
          have := wb (p : Int)
          rcases hb with ⟨e1, e2⟩ | ⟨e1, e2, e3⟩ <;> omega
        rw [if_neg hn] at hv
        exact ih (p + 1) b bv lo3 h3 (by omega) (by omega) hv i3 ((M1.seq m2).seq (m3.sub rfl)) b0 b1 b2 b3 (by rw [Int.natCast_add]; exact b4)
      · have hn : b < 0 ∨ weQ N S s b < weQ N S s (p : Int) := by
          rcases hb with ⟨e1, e2⟩ | ⟨e1, e2, e3⟩ <;> omega
        rw [if_pos hn] at hv
        exact ih (p + 1) (p : Int) (weQ N S s (p : Int)) lo3 h3 (by omega) (Or.inr ⟨by omega, by omega, rfl⟩) hv i3 ((M1.seq m2).seq (m3.sub rfl)) b0 b1 b2 b3 (by rw [Int.natCast_add]; exact b4)
  exact kqM0 (d := d + 2) (by omega) ht hu hi0 (fun lo1 h1 i1 m1 l0 l1 l2 l3 l4 => loop (S 0) 0 (-1) (-1) lo1 h1 (by omega) (Or.inl ⟨rfl, rfl⟩) rfl i1 (m1.sub rfl) l0 l1 l2 l3 l4)
theorem zRiM {l : Launch} {Γ : zG} {d : Nat} {h0 : zH} {s : zSt} {N : zN} {S : zS} {k : Nat} (hk : k < 2) (hS0 : S 0 ≤ 5) (hS : S 1 ≤ 8) (hM : MS S k s h0) (hT : TMt N S h0) {n : Int} (hB : SB n s) (hi0 : sInv swM h0) {y : Int32} (hy : y.toInt = (k : Int)) : zSem l Γ false (d + 3) (zhd 280) [.ref 0, .int y] h0 (fun r h' => ∃ a : Int32, r = some (.int a) ∧ a.toInt = rxF (weQ N S s) (S 0) 0 (-1) ∧ sInv swM h' ∧ sMd [] h0 h') := by
  have wb : ∀ q, 0 ≤ weQ N S s q ∧ weQ N S s q ≤ 15984 := fun q => weQ_b hS hB
  have kp : ∀ h', sMd [] h0 h' → MS S k s h' ∧ TMt N S h' := fun h' m => ⟨hM.md m (fun _ _ _ _ => rfl) rfl, hT.md m rfl⟩
  have loop : ∀ (m p : Nat) (b : Int) (lo : zL) (h : zH), p + m = S 0 → (b = -1 ∨ (0 ≤ b ∧ b < (p : Int))) → rxF (weQ N S s) m p b = rxF (weQ N S s) (S 0) 0 (-1) → sInv swM h → sMd [] h0 h → zget lo 0 = some (.ref 0) → zI lo 1 (k : Int) → zI lo 2 b → zI lo 3 (p : Int) → zX l Γ false (d + 3) (zhd 280) (zMQ' Γ false (zhd 280) (fun r h' => ∃ a : Int32, r = some (.int a) ∧ a.toInt = rxF (weQ N S s) (S 0) 0 (-1) ∧ sInv swM h' ∧ sMd [] h0 h')) 0 0 4 lo [] h := by
    intro m
    induction m with
    | zero =>
      intro p b lo h hp hb hv hi hm l0 l1 l2 l3
      exact krM5 (d := d + 2) (by omega) hk (p := p) (by omega) (n := (S 0 : Int)) hi (by omega) (by omega) l0 l1 l2 l3 ((pI_md hm rfl).trans hT.1.1) (fun h' r i1 m1 hr => ⟨r, rfl, hr.trans hv, i1, hm.seq (m1.sub rfl)⟩)
    | succ m ih =>
      intro p b lo h hp hb hv hi hm l0 l1 l2 l3
      simp only [rxF] at hv
      rcases hb with rfl | ⟨e1, e2⟩
      · rw [if_pos (Or.inl (by decide))] at hv
        exact krM1 (d := d + 2) (by omega) hk (p := p) (by omega) (n := (S 0 : Int)) hi (by omega) l0 l1 l2 l3 ((pI_md hm rfl).trans hT.1.1) (fun lo1 h1 i1 m1 a0 a1 a2 a3 => ih (p + 1) (p : Int) lo1 h1 (by omega) (by omega) hv i1 (hm.seq (m1.sub rfl)) a0 a1 a2 (by rw [Int.natCast_add]; exact a3))
      · refine krM2 (d := d + 2) (by omega) hk (p := p) (by omega) (bb := b) (n := (S 0 : Int)) hi (by omega) (by omega) l0 l1 l2 l3 ((pI_md hm rfl).trans hT.1.1) (fun lo1 h1 y0 y1 i1 m1 a0 a1 a2 a3 hy0 hy1 => ?_)
        have M1 : sMd [] h0 h1 := hm.seq (m1.sub rfl)
        refine zcallR (mi := 280) (as := [.int y0, .int y1]) (rest := []) (q0 := 0) zv_krm1 rfl (by decide) (shM i1) ?_
        refine (zWlM (d := d) (k := k) (s := s) hk hS (kp h1 M1).1 (kp h1 M1).2 hB i1 hy0 hy1).mono (fun v h2 hv2 => ?_)
        obtain ⟨a, rfl, ha, i2, m2⟩ := hv2
        refine krM3 (d := d + 2) (by omega) hk (p := p) (by omega) (bb := b) i2 (by omega) (wb (p : Int)) a0 a1 a2 a3 ha (fun lo3 h3 y0 y1 y3 i3 m3 b0 b1 b2 b3 f0 f1 f3 => ?_)
        have M3 : sMd [] h0 h3 := (M1.seq m2).seq (m3.sub rfl)
        refine zcallR (mi := 280) (as := [.int y0, .int y1]) (rest := [.int y3]) (q0 := 0) zv_krm2 rfl (by show 1 ≤ 8; decide) (shM i3) ?_
        refine (zWlM (d := d) (k := k) (s := s) hk hS (kp h3 M3).1 (kp h3 M3).2 hB i3 f0 f1).mono (fun v h4 hv4 => ?_)
        obtain ⟨c, rfl, hc, i4, m4⟩ := hv4
        have M4 : sMd [] h0 h4 := M3.seq m4
        refine krM4 (d := d + 2) (by omega) hk (p := p) (by omega) (bb := b) i4 (by omega) (wb b) (wb (p : Int)) b0 b1 b2 b3 hc f3 (fun lo5 h5 i5 m5 cc g0 g1 g2 g3 => ?_) (fun lo5 h5 i5 m5 cc g0 g1 g2 g3 => ?_)
        · rw [if_neg (by omega)] at hv
          exact ih (p + 1) b lo5 h5 (by omega) (by omega) hv i5 (M4.seq (m5.sub rfl)) g0 g1 g2 (by rw [Int.natCast_add]; exact g3)
        · rw [if_pos (by omega)] at hv
          exact ih (p + 1) (p : Int) lo5 h5 (by omega) (by omega) hv i5 (M4.seq (m5.sub rfl)) g0 g1 g2 (by rw [Int.natCast_add]; exact g3)
  exact krM0 (d := d + 2) (by omega) hk hi0 hy (fun lo1 h1 i1 m1 l0 l1 l2 l3 => loop (S 0) 0 (-1) lo1 h1 (by omega) (Or.inl rfl) rfl i1 (m1.sub rfl) l0 l1 l2 l3)
theorem zps21 (l : Launch) {f1 f2 : zH} {A : zGb} (g1 : zGC A f1) (g2 : zGM A f2) {n : Int} (_h0 : 0 ≤ n ∧ n ≤ 1990000000) (hb : zGB n A) : ∃ (a : Int32) (A' : zGb), zGB n A' ∧ (∀ Γ : zG, zSem l Γ false 10 (zhd 141) [.ref 0] f1 (fun r f => r = some (.int a) ∧ zGC A' f)) ∧ (∀ Γ : zG, zSem l Γ false 10 (zhd 279) [.ref 0] f2 (fun r f => r = some (.int a) ∧ zGM A' f)) := by
  obtain ⟨t, ht, C⟩ := g1.sc
  have hS := hb.2.1.1.2.1
  have hS0 := hb.2.1.1.1
  have hB := hb.2.2.1.1
  refine ⟨Int32.ofInt (rxF (weQ A.1.2.2.2.1 A.1.2.2.2.2 A.2.1) (A.1.2.2.2.2 0) 0 (-1)), A, hb, fun Γ => ?_, fun Γ => ?_⟩
  · refine kqR0 (d := 9) (by omega) ht g1.1.1 C.1.1.1 (fun lo1 h1 i1 m1 => ?_)
    have M1 : sMd [] f1 h1 := m1.sub rfl
    refine zcallR (mi := 141) (as := [.ref (17 * t + 9)]) (rest := []) (q0 := 43) zv_kqr rfl (by decide) (shS i1) ?_
    refine (zRiC (d := 6) (u := 0) (s := A.2.1) ht (by decide) hS0 hS (CS.md C.2.1 M1 (fun _ _ _ _ => rfl)) (C.1.1.md ht M1 rfl) hB i1).mono (fun v h2 hv => ?_)
    obtain ⟨a, rfl, ha, i2, m2⟩ := hv
    exact kqR1 (d := 9) (by omega) (v := a.toInt) i2 (i32bd a) rfl (fun h3 r i3 m3 hr => ⟨by rw [i32of (hr.trans ha)], g1.md i3 ((M1.seq m2).seq (m3.sub rfl)) (by decide +kernel) (by decide +kernel)⟩)
  · refine krR0 (d := 9) (by omega) g2.1.1 (fun lo1 h1 y0 i1 m1 _ hy => ?_)
    have M1 : sMd [(0, 2, 3)] f2 h1 := m1.sub rfl
    refine zcallR (mi := 279) (as := [.int y0]) (rest := []) (q0 := 0) zv_krr rfl (by decide) (shM i1) ?_
    refine (zRiM (d := 6) (k := 0) (s := A.2.1) (by decide) hS0 hS (g2.2.1.m2 M1) (g2.sm.1.md M1 rfl) hB i1 hy).mono (fun v h2 hv => ?_)
    obtain ⟨a, rfl, ha, i2, m2⟩ := hv
    exact krR1 (d := 9) (by omega) (v := a.toInt) i2 (i32bd a) rfl (fun h3 r i3 m3 hr => ⟨by rw [i32of (hr.trans ha)], g2.md' i3 ((M1.seq (m2.sub rfl)).seq (m3.sub rfl)) (by decide +kernel)⟩)
/-! rank -/
def rkF (w : Int → Int) (x : Int) : Nat → Nat → Int → Int
  | 0, _, c => c
  | m + 1, p, c => rkF w x m (p + 1) (if w x < w (p : Int) ∨ (w (p : Int) = w x ∧ (p : Int) < x) then c + 1 else c)
def rkQ (N : zN) (S : zS) (s : zSt) (x : Int) : Int := if 0 ≤ x ∧ x < (S 0 : Int) then rkF (weQ N S s) x (S 0) 0 0 else -1
theorem zv_kqk1 : zcvB 156 19 7 2 80 = true := by decide +kernel
theorem zv_kqk2 : zcvB 156 53 7 2 80 = true := by decide +kernel
theorem zv_krk1 : zcvB 294 31 12 2 233 = true := by decide +kernel
theorem zv_krk2 : zcvB 294 37 12 2 233 = true := by decide +kernel
theorem zv_krk3 : zcvB 294 46 12 2 233 = true := by decide +kernel
theorem zv_krk4 : zcvB 294 52 12 2 233 = true := by decide +kernel
theorem zps30 (l : Launch) {f1 f2 : zH} {A : zGb} (g1 : zGC A f1) (g2 : zGM A f2) {n : Int} (_h0 : 0 ≤ n ∧ n ≤ 1990000000) (hb : zGB n A) (x : Int32) : ∃ (a : Int32) (A' : zGb), zGB n A' ∧ (∀ Γ : zG, zSem l Γ false 10 (zhd 156) [.ref 0, .int x] f1 (fun r f => r = some (.int a) ∧ zGC A' f)) ∧ (∀ Γ : zG, zSem l Γ false 10 (zhd 294) [.ref 0, .int x] f2 (fun r f => r = some (.int a) ∧ zGM A' f)) := by
  obtain ⟨t, ht, C⟩ := g1.sc
  have T := C.1.1
  have hS := hb.2.1.1.2.1
  have hS0 := hb.2.1.1.1
  have hB := hb.2.2.1.1
  have wb : ∀ q, 0 ≤ weQ A.1.2.2.2.1 A.1.2.2.2.2 A.2.1 q ∧ weQ A.1.2.2.2.1 A.1.2.2.2.2 A.2.1 q ≤ 15984 := fun q => weQ_b hS hB
  generalize hw : weQ A.1.2.2.2.1 A.1.2.2.2.2 A.2.1 = w at wb
  refine ⟨Int32.ofInt (rkQ A.1.2.2.2.1 A.1.2.2.2.2 A.2.1 x.toInt), A, hb, fun Γ => ?_, fun Γ => ?_⟩
  · have fin : ∀ (h' : zH) (r : Int32), sInv swC h' → sMd [] f1 h' → r.toInt = rkQ A.1.2.2.2.1 A.1.2.2.2.2 A.2.1 x.toInt → (some (Value.int r) = some (.int (Int32.ofInt (rkQ A.1.2.2.2.1 A.1.2.2.2.2 A.2.1 x.toInt))) ∧ zGC A h') := fun h' r i m e => ⟨by rw [i32of e], g1.md i m (by decide +kernel) (by decide +kernel)⟩
    have no : ¬ (0 ≤ x.toInt ∧ x.toInt < (A.1.2.2.2.2 0 : Int)) → rkQ A.1.2.2.2.1 A.1.2.2.2.2 A.2.1 x.toInt = -1 := fun h => if_neg h
    refine kqK0 (d := 9) (by omega) ht (n := (A.1.2.2.2.2 0 : Int)) g1.1.1 (i32bd x) (by omega) rfl T.2.1.1 T.1 (fun lo1 h1 y0 i1 m1 c0 c1 l0 l1 hy => ?_) (fun h' r i m c e => fin h' r i (m.sub rfl) (e.trans (no (by omega)).symm)) (fun h' r i m c c' e => fin h' r i (m.sub rfl) (e.trans (no (by omega)).symm))
    have hq : rkQ A.1.2.2.2.1 A.1.2.2.2.2 A.2.1 x.toInt = rkF w x.toInt (A.1.2.2.2.2 0) 0 0 := by
      unfold rkQ
      rw [if_pos ⟨by omega, by omega⟩, hw]
    have M1 : sMd [] f1 h1 := m1.sub rfl
    refine zcallR (mi := 156) (as := [.int y0, .ref (17 * t + 9)]) (rest := []) (q0 := 43) zv_kqk1 rfl (by decide) (shS i1) ?_
    refine (zWlC (d := 7) (u := 0) (s := A.2.1) ht (by decide) hS (CS.md C.2.1 M1 (fun _ _ _ _ => rfl)) (T.md ht M1 rfl) hB i1 hy).mono (fun v h2 hv => ?_)
    obtain ⟨a, rfl, ha, i2, m2⟩ := hv
    rw [hw] at ha
    have loop : ∀ (m p : Nat) (c : Int) (lo : zL) (h : zH), p + m = A.1.2.2.2.2 0 → (0 ≤ c ∧ c ≤ (p : Int)) → rkF w x.toInt m p c = rkF w x.toInt (A.1.2.2.2.2 0) 0 0 → sInv swC h → sMd [] f1 h → zget lo 0 = some (.ref 0) → zI lo 1 x.toInt → zI lo 2 (w x.toInt) → zI lo 3 c → zI lo 4 (p : Int) → zX l Γ false 10 (zhd 156) (zMQ' Γ false (zhd 156) (fun r f => r = some (.int (Int32.ofInt (rkQ A.1.2.2.2.1 A.1.2.2.2.2 A.2.1 x.toInt))) ∧ zGC A f)) 0 0 28 lo [] h := by
      intro m
      induction m with
      | zero =>
        intro p c lo h hp hc hv hi hm l0 l1 l2 l3 l4
        exact kqK4 (d := 9) (by omega) (p := p) (by omega) ht (n := (A.1.2.2.2.2 0 : Int)) hi (by omega) (wb _) (by omega) (by omega) l0 l1 l2 l3 l4 ((pI_md hm rfl).trans T.2.1.1) ((hm 0 5 rfl).2.1.trans T.1) (fun h' r i m e => fin h' r i (hm.seq (m.sub rfl)) ((e.trans hv).trans hq.symm))
      | succ m ih =>
        intro p c lo h hp hc hv hi hm l0 l1 l2 l3 l4
        simp only [rkF] at hv
        refine kqK2 (d := 9) (by omega) (p := p) (by omega) ht (n := (A.1.2.2.2.2 0 : Int)) hi (by omega) (wb _) (by omega) (by omega) l0 l1 l2 l3 l4 ((pI_md hm rfl).trans T.2.1.1) ((hm 0 5 rfl).2.1.trans T.1) (fun lo3 h3 y3 i3 m3 b0 b1 b2 b3 b4 hy3 => ?_)
        have M3 : sMd [] f1 h3 := hm.seq (m3.sub rfl)
        refine zcallR (mi := 156) (as := [.int y3, .ref (17 * t + 9)]) (rest := []) (q0 := 43) zv_kqk2 rfl (by decide) (shS i3) ?_
        refine (zWlC (d := 7) (u := 0) (s := A.2.1) ht (by decide) hS (CS.md C.2.1 M3 (fun _ _ _ _ => rfl)) (T.md ht M3 rfl) hB i3 hy3).mono (fun v h4 hv4 => ?_)
        obtain ⟨e, rfl, he, i4, m4⟩ := hv4
        rw [hw] at he
        have M4 : sMd [] f1 h4 := M3.seq m4
        refine kqK3 (d := 9) (by omega) i4 (by omega) (wb _) (by omega) (by omega) (wb (p : Int)) b0 b1 b2 b3 b4 he (fun lo5 h5 i5 m5 k0 g0 g1 g2 g3 g4 => ?_) (fun lo5 h5 i5 m5 k0 k1 k2 g0 g1 g2 g3 g4 => ?_) (fun lo5 h5 i5 m5 k0 k1 k2 g0 g1 g2 g3 g4 => ?_) (fun lo5 h5 i5 m5 k0 k1 g0 g1 g2 g3 g4 => ?_)
        · rw [if_pos (by omega)] at hv
          exact ih (p + 1) (c + 1) lo5 h5 (by omega) (by omega) hv i5 (M4.seq (m5.sub rfl)) g0 g1 g2 g3 (by rw [Int.natCast_add]; exact g4)
        · rw [if_neg (by omega)] at hv
          exact ih (p + 1) c lo5 h5 (by omega) (by omega) hv i5 (M4.seq (m5.sub rfl)) g0 g1 g2 g3 (by rw [Int.natCast_add]; exact g4)
        · rw [if_pos (by omega)] at hv
          exact ih (p + 1) (c + 1) lo5 h5 (by omega) (by omega) hv i5 (M4.seq (m5.sub rfl)) g0 g1 g2 g3 (by rw [Int.natCast_add]; exact g4)
        · rw [if_neg (by omega)] at hv
          exact ih (p + 1) c lo5 h5 (by omega) (by omega) hv i5 (M4.seq (m5.sub rfl)) g0 g1 g2 g3 (by rw [Int.natCast_add]; exact g4)
    exact kqK1 (d := 9) (by omega) i2 (by omega) (wb x.toInt) l0 l1 ha (fun lo3 h3 i3 m3 b0 b1 b2 b3 b4 => loop (A.1.2.2.2.2 0) 0 0 lo3 h3 (by omega) (by omega) rfl i3 ((M1.seq m2).seq (m3.sub rfl)) b0 b1 b2 b3 b4)
  · have fin : ∀ (h' : zH) (r : Int32), sInv swM h' → sMd [(0, 2, 3)] f2 h' → r.toInt = rkQ A.1.2.2.2.1 A.1.2.2.2.2 A.2.1 x.toInt → (some (Value.int r) = some (.int (Int32.ofInt (rkQ A.1.2.2.2.1 A.1.2.2.2.2 A.2.1 x.toInt))) ∧ zGM A h') := fun h' r i m e => ⟨by rw [i32of e], g2.md' i m (by decide +kernel)⟩
    have no : ¬ (0 ≤ x.toInt ∧ x.toInt < (A.1.2.2.2.2 0 : Int)) → rkQ A.1.2.2.2.1 A.1.2.2.2.2 A.2.1 x.toInt = -1 := fun h => if_neg h
    have Tm := g2.sm.1
    have Ms := g2.2.1
    have kp : ∀ h', sMd [(0, 2, 3)] f2 h' → MS A.1.2.2.2.2 0 A.2.1 h' ∧ TMt A.1.2.2.2.1 A.1.2.2.2.2 h' := fun h' m => ⟨Ms.m2 m, Tm.md m rfl⟩
    refine krK0 (d := 9) (by omega) (n := (A.1.2.2.2.2 0 : Int)) g2.1.1 (i32bd x) (by omega) rfl Tm.1.1 (fun lo1 h1 i1 m1 c0 c1 _ l0 l1 l2 l3 => ?_) (fun h' r i m c _ e => fin h' r i (m.sub rfl) (e.trans (no (by omega)).symm)) (fun h' r i m c c' _ e => fin h' r i (m.sub rfl) (e.trans (no (by omega)).symm))
    have hq : rkQ A.1.2.2.2.1 A.1.2.2.2.2 A.2.1 x.toInt = rkF w x.toInt (A.1.2.2.2.2 0) 0 0 := by
      unfold rkQ
      rw [if_pos ⟨by omega, by omega⟩, hw]
    have wl : ∀ {h : zH} {z y : Int32} {q : Int}, sInv swM h → sMd [(0, 2, 3)] f2 h → z.toInt = q → y.toInt = 0 → zSem l Γ false 9 (zhd 233) [.ref 0, .int y, .int z] h (fun r h' => ∃ a : Int32, r = some (.int a) ∧ a.toInt = w q ∧ sInv swM h' ∧ sMd [(0, 2, 3)] f2 h') := fun {h z y q} i m e1 e2 => by
      refine (zWlM (d := 7) (k := 0) (s := A.2.1) (by decide) hS (kp h m).1 (kp h m).2 hB i e1 e2).mono (fun v h2 hv => ?_)
      obtain ⟨a, rfl, ha, i2, m2⟩ := hv
      rw [hw] at ha
      exact ⟨a, rfl, ha, i2, m.seq (m2.sub rfl)⟩
    have loop : ∀ (m p : Nat) (c : Int) (lo : zL) (h : zH), p + m = A.1.2.2.2.2 0 → (0 ≤ c ∧ c ≤ (p : Int)) → rkF w x.toInt m p c = rkF w x.toInt (A.1.2.2.2.2 0) 0 0 → sInv swM h → sMd [(0, 2, 3)] f2 h → zget lo 0 = some (.ref 0) → zI lo 1 x.toInt → zI lo 2 c → zI lo 3 (p : Int) → zX l Γ false 10 (zhd 294) (zMQ' Γ false (zhd 294) (fun r f => r = some (.int (Int32.ofInt (rkQ A.1.2.2.2.1 A.1.2.2.2.2 A.2.1 x.toInt))) ∧ zGM A f)) 0 0 19 lo [] h := by
      intro m
      induction m with
      | zero =>
        intro p c lo h hp hc hv hi hm l0 l1 l2 l3
        exact krK6 (d := 9) (by omega) (p := p) (by omega) (n := (A.1.2.2.2.2 0 : Int)) hi (by omega) (by omega) (by omega) l0 l1 l2 l3 ((pI_md hm rfl).trans Tm.1.1) (fun h' r i m e => fin h' r i (hm.seq (m.sub rfl)) ((e.trans hv).trans hq.symm))
      | succ m ih =>
        intro p c lo h hp hc hv hi hm l0 l1 l2 l3
        simp only [rkF] at hv
        have hp5 : p < 5 := by omega
        refine krK1 (d := 9) (by omega) hp5 (n := (A.1.2.2.2.2 0 : Int)) hi (by omega) (by omega) (by omega) l0 l1 l2 l3 ((pI_md hm rfl).trans Tm.1.1) (fun lo1 h1 y0 y1 y3 i1 m1 a0 a1 a2 a3 e0 e1 e3 => ?_)
        refine zcallR (mi := 294) (as := [.int y0, .int y1]) (rest := [.int y3]) (q0 := 0) zv_krk1 rfl (by show 1 ≤ 8; decide) (shM i1) ?_
        refine (wl i1 (hm.seq (m1.sub rfl)) e0 e1).mono (fun v h2 hv2 => ?_)
        obtain ⟨b, rfl, hb2, i2, m2⟩ := hv2
        refine krK2 (d := 9) (by omega) hp5 (cd := c) i2 (by omega) (by omega) (wb _) (by omega) a0 a1 a2 a3 hb2 e3 (fun lo3 h3 y0 y1 y3 y4 i3 m3 b0 b1 b2 b3 f0 f1 f3 f4 => ?_)
        refine zcallR (mi := 294) (as := [.int y0, .int y1]) (rest := [.int y3, .int y4]) (q0 := 0) zv_krk2 rfl (by show 2 ≤ 8; decide) (shM i3) ?_
        refine (wl i3 (m2.seq (m3.sub rfl)) f0 f1).mono (fun v h4 hv4 => ?_)
        obtain ⟨d4, rfl, hd4, i4, m4⟩ := hv4
        refine krK3 (d := 9) (by omega) hp5 (cd := c) i4 (by omega) (by omega) (wb _) (wb _) (by omega) b0 b1 b2 b3 hd4 f3 f4 (fun lo5 h5 i5 m5 k0 g0 g1 g2 g3 => ?_) (fun lo5 h5 y0 y1 y3 i5 m5 k0 g0 g1 g2 g3 j0 j1 j3 => ?_)
        · rw [if_pos (by omega)] at hv
          exact ih (p + 1) (c + 1) lo5 h5 (by omega) (by omega) hv i5 (m4.seq (m5.sub rfl)) g0 g1 g2 (by rw [Int.natCast_add]; exact g3)
        refine zcallR (mi := 294) (as := [.int y0, .int y1]) (rest := [.int y3]) (q0 := 0) zv_krk3 rfl (by show 1 ≤ 8; decide) (shM i5) ?_
        refine (wl i5 (m4.seq (m5.sub rfl)) j0 j1).mono (fun v h6 hv6 => ?_)
        obtain ⟨d6, rfl, hd6, i6, m6⟩ := hv6
        refine krK4 (d := 9) (by omega) hp5 (cd := c) i6 (by omega) (by omega) (wb _) (by omega) g0 g1 g2 g3 hd6 j3 (fun lo7 h7 y0 y1 y3 y4 i7 m7 q0 q1 q2 q3 r0 r1 r3 r4 => ?_)
        refine zcallR (mi := 294) (as := [.int y0, .int y1]) (rest := [.int y3, .int y4]) (q0 := 0) zv_krk4 rfl (by show 2 ≤ 8; decide) (shM i7) ?_
        refine (wl i7 (m6.seq (m7.sub rfl)) r0 r1).mono (fun v h8 hv8 => ?_)
        obtain ⟨d8, rfl, hd8, i8, m8⟩ := hv8
        refine krK5 (d := 9) (by omega) (cd := c) i8 (by omega) (by omega) (by omega) (wb _) (wb _) (by omega) q0 q1 q2 q3 hd8 r3 r4 (fun lo9 h9 i9 m9 z0 z1 u0 u1 u2 u3 => ?_) (fun lo9 h9 i9 m9 z0 z1 u0 u1 u2 u3 => ?_) (fun lo9 h9 i9 m9 z0 u0 u1 u2 u3 => ?_)
        · rw [if_neg (by omega)] at hv
          exact ih (p + 1) c lo9 h9 (by omega) (by omega) hv i9 (m8.seq (m9.sub rfl)) u0 u1 u2 (by rw [Int.natCast_add]; exact u3)
        · rw [if_pos (by omega)] at hv
          exact ih (p + 1) (c + 1) lo9 h9 (by omega) (by omega) hv i9 (m8.seq (m9.sub rfl)) u0 u1 u2 (by rw [Int.natCast_add]; exact u3)
        · rw [if_neg (by omega)] at hv
          exact ih (p + 1) c lo9 h9 (by omega) (by omega) hv i9 (m8.seq (m9.sub rfl)) u0 u1 u2 (by rw [Int.natCast_add]; exact u3)
    exact loop (A.1.2.2.2.2 0) 0 0 lo1 h1 (by omega) (by omega) rfl i1 (m1.sub rfl) l0 l1 l2 l3
