/-! law -/
def lwQ (N : zN) (S : zS) (s : zSt) (x y : Int) : Int := if (0 ≤ x ∧ x ≤ 2) ∧ (0 ≤ y ∧ y < (S 1 : Int)) then (match lwV N S x.toNat (nmS N oPl s y.toNat) with
  | some v => v
  | none => -9223372036854775808) else -9223372036854775808
theorem i64of {x : Int64} {v : Int} (e : x.toInt = v) : x = Int64.ofInt v := by rw [← e, Int64.ofInt_toInt]
theorem lwQ_at {N : zN} {S : zS} {s : zSt} {x y : Int} {j g : Nat} (hx : x = (j : Int)) (hj : j < 3) (hy : y = (g : Int)) (hg : g < S 1) : lwQ N S s x y = match lwV N S j (nmS N oPl s g) with
  | some v => v
  | none => -9223372036854775808 := by
  unfold lwQ
  rw [if_pos ⟨by omega, by omega⟩, hx, hy, Int.toNat_natCast, Int.toNat_natCast]
theorem zv_kqu1 : zcvB 83 41 8 2 87 = true := by decide +kernel
theorem zv_kqu2 : zcvB 83 52 6 1 89 = true := by decide +kernel
theorem zv_kru1 : zcvB 237 42 12 2 238 = true := by decide +kernel
theorem zv_kru2 : zcvB 237 47 12 1 240 = true := by decide +kernel
def MLw (t : Nat) : sM := MC t 0 ++ [(61, 0, 5)]
theorem MLw_s : ((List.range 2).all fun t => ssubB (MC t 0) (MLw t) && (ssubB (kqU1_m t) (MLw t) && (ssubB (evM_m t) (MC t 0) && (zGtB (MLw t) && (!smem (MLw t) 0 9 && (ctb (MLw t) && (MLw t).all (fun x => decide (x.1 < 49) || decide (55 ≤ x.1) && decide (x.1 < 86) || decide (91 ≤ x.1)))))))) = true := by decide
theorem zps7 (l : Launch) {f1 f2 : zH} {A : zGb} (g1 : zGC A f1) (g2 : zGM A f2) {n : Int} (h0 : 0 ≤ n ∧ n ≤ 1990000000) (hb : zGB n A) (x y : Int32) : ∃ (a : Int64) (A' : zGb), zGB n A' ∧ (∀ Γ : zG, zSem l Γ false 10 (zhd 83) [.ref 0, .int x, .int y] f1 (fun r f => r = some (.long a) ∧ zGC A' f)) ∧ (∀ Γ : zG, zSem l Γ false 10 (zhd 237) [.ref 0, .int x, .int y] f2 (fun r f => r = some (.long a) ∧ zGM A' f)) := by
  have hTB := g2.tb hb.2.1
  obtain ⟨t, ht, C⟩ := g1.sc
  have T := C.1.1
  have hS := hb.2.1.1.2.1
  have hB := hb.2.2.1.1
  have vC : pI f1 0 9 = A.1.2.2.1.2.2.2.1 := g1.1.2.2.2.2.1.2.2.2.1
  have vM : pI f2 0 82 = A.1.2.2.1.2.2.2.1 := g2.1.2.2.2.2.1.2.2.2.1
  refine ⟨Int64.ofInt (lwQ A.1.2.2.2.1 A.1.2.2.2.2 A.2.1 x.toInt y.toInt), zGs A A.2 A.1.2.2.1.2.2.2.1, ⟨hb.1, hb.2⟩, fun Γ => ?_, fun Γ => ?_⟩
  · have ss := zall_r MLw_s ht
    simp only [Bool.and_eq_true, Bool.not_eq_true'] at ss
    obtain ⟨s1, s2, s3, s4, s5, s6, s7⟩ := ss
    have fin : ∀ (h' : zH) (r : Int64), sInv swC h' → sMd (MLw t) f1 h' → CS 43 A.2.1 h' → r.toInt = lwQ A.1.2.2.2.1 A.1.2.2.2.2 A.2.1 x.toInt y.toInt → (some (Value.long r) = some (.long (Int64.ofInt (lwQ A.1.2.2.2.1 A.1.2.2.2.2 A.2.1 x.toInt y.toInt))) ∧ zGC (zGs A A.2 A.1.2.2.1.2.2.2.1) h') := fun h' r i m c e => by
      refine ⟨by rw [i64of e], g1.st (t := t) (N := A.1.2.2.2.1) (S := A.1.2.2.2.2) i m s4 ⟨C.1.md ht m s6, c, fun e9 => CS.md (C.2.2.1 ((pI_md m s5).symm.trans e9)) m (fun q a b j => ?_), C.2.2.2.md m (fun q a b j => ?_)⟩ ((pI_md m s5).trans vC)⟩
      · cases hc : smem (MLw t) q j with
        | false => rfl
        | true =>
          obtain ⟨u, hu, z1⟩ := List.any_eq_true.mp hc
          have z2 := List.all_eq_true.mp s7 u hu
          simp only [Bool.and_eq_true, Bool.or_eq_true, beq_iff_eq, decide_eq_true_eq] at z1 z2
          omega
      · cases hc : smem (MLw t) q j with
        | false => rfl
        | true =>
          obtain ⟨u, hu, z1⟩ := List.any_eq_true.mp hc
          have z2 := List.all_eq_true.mp s7 u hu
          simp only [Bool.and_eq_true, Bool.or_eq_true, beq_iff_eq, decide_eq_true_eq] at z1 z2
          omega
    have no : ¬ ((0 ≤ x.toInt ∧ x.toInt ≤ 2) ∧ (0 ≤ y.toInt ∧ y.toInt < (A.1.2.2.2.2 1 : Int))) → lwQ A.1.2.2.2.1 A.1.2.2.2.2 A.2.1 x.toInt y.toInt = -9223372036854775808 := fun h => if_neg h
    have bad : ∀ (h' : zH) (r : Int64), sInv swC h' → sMd [] f1 h' → r.toInt = -9223372036854775808 → ¬ ((0 ≤ x.toInt ∧ x.toInt ≤ 2) ∧ (0 ≤ y.toInt ∧ y.toInt < (A.1.2.2.2.2 1 : Int))) → (some (Value.long r) = some (.long (Int64.ofInt (lwQ A.1.2.2.2.1 A.1.2.2.2.2 A.2.1 x.toInt y.toInt))) ∧ zGC (zGs A A.2 A.1.2.2.1.2.2.2.1) h') := fun h' r i m e hn => fin h' r i (m.sub rfl) (CS.md C.2.1 m (fun _ _ _ _ => rfl)) (e.trans (no hn).symm)
    refine kqU0 (d := 9) (by omega) ht (n := (A.1.2.2.2.2 1 : Int)) g1.1.1 (i32bd x) (i32bd y) (by omega) rfl rfl T.2.1.2.1 T.1 (fun lo1 h1 i1 m1 c0 c1 c2 c3 c4 l0 l1 l2 => ?_) (fun h' r i m c e => bad h' r i (m.sub rfl) e (by omega)) (fun h' r i m c c' c'' e => bad h' r i (m.sub rfl) e (by omega)) (fun h' r i m c c' c'' c3 e => bad h' r i (m.sub rfl) e (by omega)) (fun h' r i m c c' c'' c3 c4 e => bad h' r i (m.sub rfl) e (by omega)) (fun h' r i m c c' e => bad h' r i (m.sub rfl) e (by omega))
    obtain ⟨j, hj⟩ : ∃ j : Nat, x.toInt = (j : Int) := ⟨x.toInt.toNat, by omega⟩
    obtain ⟨g, hg⟩ : ∃ g : Nat, y.toInt = (g : Int) := ⟨y.toInt.toNat, by omega⟩
    have j3 : j < 3 := by omega
    have gS : g < A.1.2.2.2.2 1 := by omega
    have ev := lwQ_at (N := A.1.2.2.2.1) (S := A.1.2.2.2.2) (s := A.2.1) hj j3 hg gS
    have M1 : sMd [] f1 h1 := m1.sub rfl
    refine kqU1 (d := 9) (by omega) ht i1 (by omega) (by omega) l0 l1 l2 ((M1 0 5 rfl).2.1.trans T.1) (fun lo2 h2 y0 i2 m2 o0 o4 o3 o2 o1 a0 a1 hy0 => ?_)
    have M2 : sMd (MLw t) f1 h2 := (M1.sub rfl).seq (m2.sub s2)
    have C2 : CTl t A.1.2.2.2.1 A.1.2.2.2.2 h2 := C.1.md ht M2 s6
    have K2 : CS 43 A.2.1 h2 := CS.md (CS.md C.2.1 M1 (fun _ _ _ _ => rfl)) m2 (fun q a b j => smemc (by omega) (smemc (by omega) (smemc (by omega) (smemc (by omega) (smemc (by omega) smem0)))))
    have I2 : CI t 0 A.1.2.2.2.1 A.1.2.2.2.2 oPl A.2.1 h2 h2 := ⟨i2, sMd.rf, ⟨C2, o0, o1, o2, fun e => absurd e (by decide), o4, fun e => absurd rfl e⟩, K2⟩
    refine zcallR (mi := 83) (as := [.int y0, .ref 43]) (rest := []) (q0 := 61) zv_kqu1 rfl (by decide) (shK i2) ?_
    refine (zLookC (d := 7) (u := 0) ht (by decide) hTB oPl_b I2 gS (hy0.trans hg)).mono (fun v h3 hv => ?_)
    obtain ⟨rfl, I3, nm⟩ := hv
    have M3 : sMd (MLw t) f1 h3 := M2.seq (I3.2.1.sub s1)
    refine kqU2 (d := 9) (by omega) ht (x := x.toInt) I3.1 (by omega) a0 a1 I3.2.2.1.1.1.1 (fun lo4 h4 y1 i4 m4 hy1 => ?_)
    have I4 : CI t 0 A.1.2.2.2.1 A.1.2.2.2.2 oPl A.2.1 h2 h4 := I3.lo (md := []) ht (by decide) i4 (m4.sub rfl) (by rcases (by omega : t = 0 ∨ t = 1) with rfl | rfl <;> decide) (by rcases (by omega : t = 0 ∨ t = 1) with rfl | rfl <;> decide)
    refine zcallR (mi := 83) (as := [.int y1]) (rest := []) (q0 := 17 * t + 20) zv_kqu2 rfl (by decide) (shL ht i4) ?_
    by_cases h7 : A.1.2.2.2.2 (7 + j) = 0
    · have ef := (I4.2.2.1.1.2.2 j j3).mp h7
      refine evM (d := 8) (by omega) ht (la := (j : Int)) i4 (by omega) (hy1.trans hj) (by rw [show ((j : Int) + 0).toNat = j from by omega]; exact ef) (fun h5 r i5 m5 hr => ?_)
      have I5 : CI t 0 A.1.2.2.2.1 A.1.2.2.2.2 oPl A.2.1 h2 h5 := I4.lo ht (by decide) i5 m5 s3 (by rcases (by omega : t = 0 ∨ t = 1) with rfl | rfl <;> decide)
      exact kqU3 (d := 9) (by omega) i5 (i64bd r) rfl (fun h6 r6 i6 m6 hr6 => fin h6 r6 i6 ((M2.seq (I5.2.1.sub s1)).seq (m6.sub rfl)) (CS.md I5.2.2.2 m6 (fun _ _ _ _ => rfl)) (by rw [hr6, hr, ev, lwV_n h7]))
    · refine (zValN (d := 7) (u := 0) ht (by decide) hTB I4 j3 h7 (nm := nmS A.1.2.2.2.1 oPl A.2.1 g) (fun i hi => (pI_md m4 rfl).trans (nm i hi)) (hy1.trans hj)).mono (fun v h5 hv => ?_)
      obtain ⟨r, rfl, I5, hbd⟩ := hv
      refine kqU3 (d := 9) (by omega) I5.1 (i64bd r) rfl (fun h6 r6 i6 m6 hr6 => fin h6 r6 i6 ((M2.seq (I5.2.1.sub s1)).seq (m6.sub rfl)) (CS.md I5.2.2.2 m6 (fun _ _ _ _ => rfl)) ?_)
      rcases hbd with ⟨v, e1, -, e3⟩ | ⟨e1, e3⟩
      · rw [hr6, ev, e1, e3]
      · rw [hr6, ev, e1, e3]
  · obtain ⟨Tm, Lm, Ms, Im, Um⟩ := g2.sm
    obtain ⟨q1, q2, q3, q4, q5, q6, q7, q8, q9⟩ := MGm_s
    have fin : ∀ (h' : zH) (r : Int64), sInv swM h' → sMd MGm f2 h' → pI h' 0 80 = pI f2 0 80 → MS A.1.2.2.2.2 0 A.2.1 h' → r.toInt = lwQ A.1.2.2.2.1 A.1.2.2.2.2 A.2.1 x.toInt y.toInt → (some (Value.long r) = some (.long (Int64.ofInt (lwQ A.1.2.2.2.1 A.1.2.2.2.2 A.2.1 x.toInt y.toInt))) ∧ zGM (zGs A A.2 A.1.2.2.1.2.2.2.1) h') := fun h' r i m e80 ms e => by
      have tl := TL.md Tm Lm m q5 (fun q a b j => smem_out q6 a b)
      refine ⟨by rw [i64of e], g2.st i m (by decide +kernel) ⟨tl.1, tl.2, ms, fun e82 => (Im ((pI_md m q8).symm.trans e82)).md m (fun j => smem_out q7 (by decide) (by decide)) (fun j => smem_out q7 (by decide) (by decide)) q9, ?_⟩ ((pI_md m q8).trans vM)⟩
      exact ⟨e80.trans Um.1, fun k hk g hg => by
        rw [pI_md m (smem_out q7 (by decide) (by decide)), pI_md m (smem_out q7 (by decide) (by decide)), pI_md m (smem_out q7 (by decide) (by decide)), pI_md m (smem_out q7 (by decide) (by decide))]
        exact Um.2 k hk g hg⟩
    have no : ¬ ((0 ≤ x.toInt ∧ x.toInt ≤ 2) ∧ (0 ≤ y.toInt ∧ y.toInt < (A.1.2.2.2.2 1 : Int))) → lwQ A.1.2.2.2.1 A.1.2.2.2.2 A.2.1 x.toInt y.toInt = -9223372036854775808 := fun h => if_neg h
    have bad : ∀ (h' : zH) (r : Int64), sInv swM h' → sMd [(0, 2, 3)] f2 h' → r.toInt = -9223372036854775808 → lwQ A.1.2.2.2.1 A.1.2.2.2.2 A.2.1 x.toInt y.toInt = -9223372036854775808 → (some (Value.long r) = some (.long (Int64.ofInt (lwQ A.1.2.2.2.1 A.1.2.2.2.2 A.2.1 x.toInt y.toInt))) ∧ zGM (zGs A A.2 A.1.2.2.1.2.2.2.1) h') := fun h' r i m e hn => fin h' r i (m.sub q4) (pI_md m rfl) (Ms.m2 m) (e.trans hn.symm)
    refine krU0 (d := 9) (by omega) g2.1.1 (i32bd x) (i32bd y) rfl rfl (fun lo1 h1 i1 m1 c0 c1 _ l0 l1 l2 => ?_) (fun h' r i m c _ e => bad h' r i (m.sub rfl) e (no (by omega))) (fun h' r i m c c' _ e => bad h' r i (m.sub rfl) e (no (by omega)))
    obtain ⟨j, hj⟩ : ∃ j : Nat, x.toInt = (j : Int) := ⟨x.toInt.toNat, by omega⟩
    have j3 : j < 3 := by omega
    have M1 : sMd [(0, 2, 3)] f2 h1 := m1.sub rfl
    have lj := Lm.2 j j3
    have bl := sIvB g2.1.1 j3
    rw [lj.1] at bl
    rw [hj] at l1
    refine krU1 (d := 9) (by omega) j3 (lt := (A.1.2.2.2.2 (7 + j) : Int)) (n := (A.1.2.2.2.2 1 : Int)) i1 (i32bd y) bl (by omega) l0 l1 l2 ((pI_md M1 (smemc (by omega) smem0)).trans lj.1) ((pI_md M1 rfl).trans Tm.1.2.1) (fun lo2 h2 i2 m2 c2 c3 c4 a0 a1 a2 => ?_) (fun h' r i m c e => bad h' r i (M1.seq (m.sub rfl)) e ?_) (fun h' r i m c _ e => bad h' r i (M1.seq (m.sub rfl)) e (no (by omega))) (fun h' r i m c c' _ e => bad h' r i (M1.seq (m.sub rfl)) e (no (by omega)))
    rotate_left
    · by_cases hy : 0 ≤ y.toInt ∧ y.toInt < (A.1.2.2.2.2 1 : Int)
      · rw [lwQ_at (g := y.toInt.toNat) hj j3 (by omega) (by omega), lwV_n (by omega)]
      · exact no (by omega)
    obtain ⟨g, hg⟩ : ∃ g : Nat, y.toInt = (g : Int) := ⟨y.toInt.toNat, by omega⟩
    have gS : g < A.1.2.2.2.2 1 := by omega
    have ev := lwQ_at (N := A.1.2.2.2.1) (S := A.1.2.2.2.2) (s := A.2.1) hj j3 hg gS
    have h7 : A.1.2.2.2.2 (7 + j) ≠ 0 := by omega
    have M2 : sMd [(0, 2, 3)] f2 h2 := M1.seq (m2.sub rfl)
    refine krU2 (d := 9) (by omega) (x := (j : Int)) i2 (by omega) (by omega) a0 a1 a2 (fun lo3 h3 y0 y1 i3 m3 k73 k72 k71 k70 k69 k68 k67 k66 b0 b1 hy0 hy1 => ?_)
    have M3 : sMd MGm f2 h3 := (M2.sub q4).seq (m3.sub (by decide))
    have M3s : MS A.1.2.2.2.2 0 A.2.1 h3 := (Ms.m2 M2).md m3 (fun q a b j => smem_z (by decide) (by omega)) rfl
    have tl := TL.md Tm Lm M3 q5 (fun q a b j => smem_out q6 a b)
    have I3 : DI 0 A.1.2.2.2.1 A.1.2.2.2.2 oPl A.2.1 h3 h3 := ⟨i3, sMd.rf, ⟨tl.1, tl.2, k66, k67, k68, k69, k70, k71, k72, k73⟩, M3s⟩
    refine zcallR (mi := 237) (as := [.int y0, .int y1]) (rest := []) (q0 := 0) zv_kru1 rfl (by decide) (shM i3) ?_
    refine (zLayM (d := 7) (b := 0) (by decide) hTB oPl_b hB I3 gS hy1 (hy0.trans hg)).mono (fun v h4 hv => ?_)
    obtain ⟨rfl, I4, nm⟩ := hv
    have e80 : pI h4 0 80 = pI f2 0 80 := (pI_md I4.2.1 MM0_u.2).trans ((pI_md m3 rfl).trans (pI_md M2 rfl))
    refine krU3 (d := 9) (by omega) (x := (j : Int)) I4.1 (by omega) b0 b1 (fun lo5 h5 y2 i5 m5 d0 hy2 => ?_)
    have n5 : sMd [] h4 h5 := m5.sub rfl
    refine zcallR (mi := 237) (as := [.int y2]) (rest := []) (q0 := 0) zv_kru2 rfl (by decide) (shM i5) ?_
    obtain ⟨c1', ⟨kd, pt, ot, ck⟩, c3', c4'⟩ := hTB.2.2.2.2.2 j j3 h7
    obtain ⟨-, lk⟩ := I4.2.2.1.2.1.2 j j3
    obtain ⟨k1, k2, k3, k4, k5⟩ := lk h7
    have ln := lsF_len (A.1.2.2.2.2 (11 + j)) (A.1.2.2.2.1 (20 + j))
    have nmb : ∀ i, i < 7 → inW (nmS A.1.2.2.2.1 oPl A.2.1 g i) := fun i hi => by
      obtain ⟨w0, w1, w2, w3, w4⟩ := hB.1 g (by omega)
      have nb := nkS_b hTB oPl_b gS
      have cb := (hTB.2.1 g gS).2.2.2.2
      have mb := hB.2.2.1
      rcases (by omega : i = 0 ∨ i = 1 ∨ i = 2 ∨ i = 3 ∨ i = 4 ∨ i = 5 ∨ i = 6) with rfl | rfl | rfl | rfl | rfl | rfl | rfl
      · show -1000000000000 ≤ A.2.1 0 g ∧ A.2.1 0 g ≤ 1000000000000
        omega
      · show -1000000000000 ≤ A.2.1 1 g ∧ A.2.1 1 g ≤ 1000000000000
        omega
      · show -1000000000000 ≤ nkS A.1.2.2.2.1 oPl g ∧ nkS A.1.2.2.2.1 oPl g ≤ 1000000000000
        omega
      · show -1000000000000 ≤ A.1.2.2.2.1 6 g ∧ A.1.2.2.2.1 6 g ≤ 1000000000000
        omega
      · show -1000000000000 ≤ A.2.1 2 g ∧ A.2.1 2 g ≤ 1000000000000
        omega
      · show -1000000000000 ≤ A.2.1 4 g ∧ A.2.1 4 g ≤ 1000000000000
        omega
      · show -1000000000000 ≤ A.2.1 6 0 ∧ A.2.1 6 0 ≤ 1000000000000
        omega
    have r5 : ∀ q i, pI h5 q i = pI h4 q i := fun q i => pI_md n5 rfl
    refine (zLawOfM (d := 7) (by omega) i5 j3 (b := A.1.2.2.2.2 (14 + j)) (e := lsF (A.1.2.2.2.1 (20 + j)) (A.1.2.2.2.2 (11 + j))) (nm := nmS A.1.2.2.2.1 oPl A.2.1 g) (by rw [ln]; exact c1') c4' (kR_eq (fun i _ _ => ⟨r5 _ _, r5 _ _, r5 _ _⟩) k4) c3' ((r5 _ _).trans k1) (by rw [ln]; exact (r5 _ _).trans k2) (fun i hi => ⟨(pL_md n5 rfl).trans (nm i hi), nmb i hi⟩) hy2).mono (fun v h6 hv => ?_)
    obtain ⟨r, rfl, i6, m6, hr⟩ := hv
    have er : 0 ≤ pI h6 0 56 ∧ pI h6 0 56 ≤ 1 := by
      rcases hr with ⟨v, -, -, -, e⟩ | ⟨-, e⟩ <;> omega
    have M6 : sMd MGm f2 h6 := ((M3.seq (I4.2.1.sub q1)).seq (n5.sub rfl)).seq (m6.sub (by decide))
    have ms6 : ∀ h', sMd [] h6 h' → MS A.1.2.2.2.2 0 A.2.1 h' := fun h' m => (((I4.2.2.2.md n5 (fun _ _ _ _ => rfl) rfl).md m6 (fun q a b j => smemc (by omega) (smemc (by omega) smem0)) rfl).md m (fun _ _ _ _ => rfl) rfl)
    have e6 : pI h6 0 80 = pI f2 0 80 := (pI_md m6 rfl).trans ((r5 _ _).trans e80)
    have lv1 : ∀ v, evS (nmS A.1.2.2.2.1 oPl A.2.1 g) (lsF (A.1.2.2.2.1 (20 + j)) (A.1.2.2.2.2 (11 + j))) = some [v] → lwV A.1.2.2.2.1 A.1.2.2.2.2 j (nmS A.1.2.2.2.1 oPl A.2.1 g) = some v := fun v ho => by
      unfold lwV
      rw [if_neg h7, ho]
    have lv2 : evS (nmS A.1.2.2.2.1 oPl A.2.1 g) (lsF (A.1.2.2.2.1 (20 + j)) (A.1.2.2.2.2 (11 + j))) = none → lwV A.1.2.2.2.1 A.1.2.2.2.2 j (nmS A.1.2.2.2.1 oPl A.2.1 g) = none := fun ho => by
      unfold lwV
      rw [if_neg h7, ho]
    refine krU4 (d := 9) (by omega) (er := pI h6 0 56) i6 (i64bd r) er ?_ rfl rfl (fun h7' r7 i7 m7 ee hr7 => fin h7' r7 i7 (M6.seq (m7.sub rfl)) ((pI_md (show sMd [] h6 h7' from m7.sub rfl) rfl).trans e6) (ms6 _ (m7.sub rfl)) ?_) (fun h7' r7 i7 m7 ee hr7 => fin h7' r7 i7 (M6.seq (m7.sub rfl)) ((pI_md (show sMd [] h6 h7' from m7.sub rfl) rfl).trans e6) (ms6 _ (m7.sub rfl)) ?_)
    · exact d0
    · rcases hr with ⟨v, e1, -, e3, e4⟩ | ⟨e1, e4⟩
      · rw [hr7, e3, ev, lv1 _ e1]
      · omega
    · rcases hr with ⟨v, e1, -, e3, e4⟩ | ⟨e1, e4⟩
      · omega
      · rw [hr7, ev, lv2 e1]
