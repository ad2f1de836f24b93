/-! sand -/
theorem kmU3_s : ((List.range 2).all fun b => (List.range 8).all fun g => ssubB (kmU3_m b g) (MM b)) = true := by decide
theorem zv_kmu1 : zcvB 259 10 12 2 238 = true := by decide +kernel
theorem zv_kmu2 : zcvB 259 16 12 2 260 = true := by decide +kernel
theorem zRunM {l : Launch} {Γ : zG} {d b : Nat} (hb : b < 2) {N : zN} {S : zS} {o : Nat → Int} {s : zSt} {h0 h : zH} {n : Int} (hT : TB N S) (hO : OB o) (hB : SB n s) (hn : n ≤ 2000000000) (I : DI b N S o s h0 h) {g : Nat} (hg : g < S 1) {x y : Int32} (hx : x.toInt = (b : Int)) (hy : y.toInt = (g : Int)) : zSem l Γ false (d + 7) (zhd 259) [.ref 0, .int x, .int y] h (fun r h' => r = none ∧ DI b N S o (rnG N S o s g) h0 h') := by
  have b1 := hT.1.2.1
  have g8 : g < 8 := by omega
  obtain ⟨w0, w1, w2, w3, w4⟩ := hB.1 g g8
  have fb := flG_b (s := s) hT hO hg
  have x0 := lsG_b (s 0 g) (flG N S o s g)
  have x1 := lsG_b 999 (s 1 g + lsG (s 0 g) (flG N S o s g))
  refine kmU0 (d := d + 6) (by omega) hb g8 I.1 hx hy (fun lo1 h1 y0 y1 i1 m1 g0 g1 g2 g3 e0 e1 => ?_)
  have I1 := I.nil hb i1 m1
  refine zcallR (mi := 259) (as := [.int y0, .int y1]) (rest := []) (q0 := 0) zv_kmu1 rfl (by decide) (shM i1) ?_
  refine (zLayM (d := d + 4) hb hT hO hB I1 hg e1 e0).mono (fun v h2 hv => ?_)
  obtain ⟨rfl, I2, hnm⟩ := hv
  refine kmU1 (d := d + 6) (by omega) hb g8 I2.1 g0 g1 g2 g3 (fun lo3 h3 y2 y3 i3 m3 z0 z1 z2 z3 e2 e3 => ?_)
  have I3 := I2.nil hb i3 m3
  refine zcallR (mi := 259) (as := [.int y2, .int y3]) (rest := []) (q0 := 0) zv_kmu2 rfl (by decide) (shM i3) ?_
  refine (zFlwM hb hT hB hn hO I3 hg (fun i hi => (pL_md m3 rfl).trans (hnm i hi)) e3 e2).mono (fun v h4 hv => ?_)
  obtain ⟨z, rfl, hz, I4⟩ := hv
  obtain ⟨c0, c1, -, c3, -⟩ := I4.2.2.2.1 g (by omega)
  have fin : ∀ (h5 h6 : zH), sMd [] h4 h5 → sInv swM h6 → sMd (kmU3_m b g) h5 h6 → pI h6 32 (8 * b + g) = (if s 0 g ≠ 0 ∧ s 0 g - lsG (s 0 g) (flG N S o s g) = 0 then s 3 g + 1 else s 3 g) → pI h6 30 (8 * b + g) = lsG 999 (s 1 g + lsG (s 0 g) (flG N S o s g)) → pI h6 29 (8 * b + g) = s 0 g - lsG (s 0 g) (flG N S o s g) → (none : Option Value) = none ∧ DI b N S o (rnG N S o s g) h0 h6 := fun h5 h6 m5 i6 m6 v3 v1 v0 => ⟨rfl, by
    have M : sMd (kmU3_m b g) h4 h6 := (m5.sub rfl).seq m6
    show DI b N S o (rnS s g (lsG (s 0 g) (flG N S o s g))) h0 h6
    exact I4.to hb i6 (M.sub (zall_r (zall_r kmU3_s hb) g8)) (MS.mk (upS (f := fun j => pI h6 29 (8 * b + j)) (s := s) (fun j hj hn => (pI_md M (smemc (by omega) (smemc (by omega) (smemc (by omega) smem0)))).trans (I4.2.2.2.1 j hj).1) v0) (upS (f := fun j => pI h6 30 (8 * b + j)) (s := stS s 0 g (s 0 g - lsG (s 0 g) (flG N S o s g))) (fun j hj hn => (pI_md M (smemc (by omega) (smemc (by omega) (smemc (by omega) smem0)))).trans (I4.2.2.2.1 j hj).2.1) v1) (I4.2.2.2.k2 M (fun j => smemc (by omega) (smemc (by omega) (smemc (by omega) smem0)))) (upS (f := fun j => pI h6 32 (8 * b + j)) (s := stS (stS s 0 g (s 0 g - lsG (s 0 g) (flG N S o s g))) 1 g (lsG 999 (s 1 g + lsG (s 0 g) (flG N S o s g)))) (fun j hj hn => (pI_md M (smemc (by omega) (smemc (by omega) (smemc (by omega) smem0)))).trans (I4.2.2.2.1 j hj).2.2.2.1) v3) (I4.2.2.2.k4 M (fun j => smemc (by omega) (smemc (by omega) (smemc (by omega) smem0)))) (I4.2.2.2.k5 M (fun j => smemc (by omega) (smemc (by omega) (smemc (by omega) smem0)))) (I4.2.2.2.k6 M (smemc (by omega) (smemc (by omega) (smemc (by omega) smem0))) (smemc (by omega) (smemc (by omega) (smemc (by omega) smem0))) (smemc (by omega) (smemc (by omega) (smemc (by omega) smem0)))))⟩
  have las : ∀ (lo5 : zL) (h5 : zH), sInv swM h5 → sMd [] h4 h5 → zget lo5 0 = some (.ref 0) → zI lo5 3 (8 * (b : Int) + (g : Int)) → zI lo5 4 (lsG (s 0 g) (flG N S o s g)) → zX l Γ false (d + 7) (zhd 259) (zMQ' Γ false (zhd 259) (fun r h' => r = none ∧ DI b N S o (rnG N S o s g) h0 h')) 0 0 30 lo5 [] h5 := fun lo5 h5 i5 m5 g0 g3 g4 => by
    refine kmU3 (d := d + 6) (by omega) hb g8 (x := lsG (s 0 g) (flG N S o s g)) (a := s 0 g) (bw := s 1 g) (em := s 3 g) i5 ⟨by omega, by omega⟩ w0 w1 ⟨by omega, by omega⟩ g0 g3 g4 ((pI_md m5 rfl).trans c0) ((pI_md m5 rfl).trans c1) ((pI_md m5 rfl).trans c3) (by omega) (fun h6 i6 m6 a1 a2 v1 v0 v3 => ?_) (fun h6 i6 m6 a1 a2 v1 v0 v3 => ?_) (fun h6 i6 m6 a1 a2 a3 v1 v0 v3 => ?_) (fun h6 i6 m6 a1 a2 a3 v1 v0 v3 => ?_) (fun h6 i6 m6 a1 a2 a3 v1 v0 v3 => ?_) (fun h6 i6 m6 a1 a2 a3 v1 v0 v3 => ?_)
    · exact fin h5 h6 m5 i6 m6 (by rw [if_neg (by omega)]; exact v3) (by omega) (by omega)
    · exact fin h5 h6 m5 i6 m6 (by rw [if_neg (by omega)]; exact v3) (by omega) (by omega)
    · exact fin h5 h6 m5 i6 m6 (by rw [if_pos (by omega)]; exact v3) (by omega) (by omega)
    · exact fin h5 h6 m5 i6 m6 (by rw [if_pos (by omega)]; exact v3) (by omega) (by omega)
    · exact fin h5 h6 m5 i6 m6 (by rw [if_neg (by omega)]; exact v3) (by omega) (by omega)
    · exact fin h5 h6 m5 i6 m6 (by rw [if_neg (by omega)]; exact v3) (by omega) (by omega)
  refine kmU2 (d := d + 6) (by omega) hb g8 (x := flG N S o s g) (a := s 0 g) I4.1 fb w0 z0 z1 z2 z3 hz c0 (fun lo5 h5 i5 m5 e g0 g3 g4 => ?_) (fun lo5 h5 i5 m5 e g0 g3 g4 => ?_)
  · have ex : lsG (s 0 g) (flG N S o s g) = s 0 g := by omega
    exact las lo5 h5 i5 m5 g0 g3 (by rw [ex]; exact g4)
  · have ex : lsG (s 0 g) (flG N S o s g) = flG N S o s g := by omega
    exact las lo5 h5 i5 m5 g0 g3 (by rw [ex]; exact g4)
theorem zv_kmr : zcvB 253 161 12 2 259 = true := by decide +kernel
theorem zRunML {l : Launch} {Γ : zG} {d b : Nat} (hb : b < 2) {Kp : Option Value → zH → Prop} {N : zN} {S : zS} {o : Nat → Int} {h0 : zH} (hT : TB N S) (hO : OB o) : ∀ (m g : Nat) (lo : zL) (h : zH) (s : zSt) (n : Int), g + m = S 1 → SB n s → n + m ≤ 2000000000 → DI b N S o s h0 h → zget lo 0 = some (.ref 0) → zI lo 1 (b : Int) → zI lo 2 (g : Int) →
    (∀ lo' h', DI b N S o (itG (rnG N S o) m g s) h0 h' → zget lo' 0 = some (.ref 0) → zI lo' 1 (b : Int) → zI lo' 2 0 → zX l Γ false (d + 8) (zhd 253) (zMQ' Γ false (zhd 253) Kp) 0 0 172 lo' [] h') → zX l Γ false (d + 8) (zhd 253) (zMQ' Γ false (zhd 253) Kp) 0 0 150 lo [] h
  | 0, g, lo, h, s, n, hr, hB, hn, I, l0, l1, l2, hE => by
    have b1 := hT.1.2.1
    exact kmR3 (d := d + 7) (by omega) hb (ri := (g : Int)) (n := (S 1 : Int)) I.1 ⟨by omega, by omega⟩ ⟨by omega, by omega⟩ l0 l1 l2 I.2.2.1.1.1.2.1 (by omega) (fun lo' h' i1 m1 g0 g1 g2 => hE lo' h' (I.nil hb i1 m1) g0 g1 g2)
  | m + 1, g, lo, h, s, n, hr, hB, hn, I, l0, l1, l2, hE => by
    have b1 := hT.1.2.1
    refine kmR1 (d := d + 7) (by omega) hb (ri := (g : Int)) (n := (S 1 : Int)) I.1 ⟨by omega, by omega⟩ ⟨by omega, by omega⟩ l0 l1 l2 I.2.2.1.1.1.2.1 (by omega) (fun lo' h' y0 y1 i1 m1 g0 g1 g2 e0 e1 => ?_)
    have I1 := I.nil hb i1 m1
    refine zcallR (mi := 253) (as := [.int y0, .int y1]) (rest := []) (q0 := 0) zv_kmr rfl (by decide) (shM i1) ?_
    refine (zRunM hb hT hO hB (by omega) I1 (g := g) (by omega) e1 e0).mono (fun v h2 hv => ?_)
    obtain ⟨rfl, I2⟩ := hv
    refine kmR2 (d := d + 7) (by omega) hb (ri := (g : Int)) I2.1 ⟨by omega, by omega⟩ g0 g1 g2 (fun lo3 h3 i3 m3 z0 z1 z2 => ?_)
    exact zRunML hb hT hO m (g + 1) lo3 h3 (rnG N S o s g) (n + 1) (by omega) (rnG_b hT hO hB (by omega)) (by omega) (I2.nil hb i3 m3) z0 z1 (by rw [Int.natCast_add]; exact z2) hE
/-! wind -/
theorem kmV3_s : ((List.range 2).all fun b => (List.range 8).all fun g => ssubB (kmV3_m b g) (MM b)) = true := by decide
theorem zv_kmv1 : zcvB 261 3 12 2 238 = true := by decide +kernel
theorem zv_kmv2 : zcvB 261 23 12 2 256 = true := by decide +kernel
theorem zWndM {l : Launch} {Γ : zG} {d b : Nat} (hb : b < 2) {N : zN} {S : zS} {o : Nat → Int} {s : zSt} {h0 h : zH} {n : Int} (hT : TB N S) (hO : OB o) (hB : SB n s) (hn : n ≤ 2000000000) (I : DI b N S o s h0 h) {g : Nat} (hg : g < S 1) {x y : Int32} (hx : x.toInt = (b : Int)) (hy : y.toInt = (g : Int)) : zSem l Γ false (d + 6) (zhd 261) [.ref 0, .int x, .int y] h (fun r h' => r = none ∧ DI b N S o (wnG N S o s g) h0 h') := by
  have b1 := hT.1.2.1
  have g8 : g < 8 := by omega
  obtain ⟨w0, w1, w2, w3, w4⟩ := hB.1 g g8
  have fb := bdV_b (o := lwV N S 2 (nmS N o s g)) (w := 0) (by omega)
  have x0 := lsG_b (bdV (lwV N S 2 (nmS N o s g)) 0) (s 1 g)
  refine kmV0 (d := d + 5) (by omega) hb g8 I.1 hx hy (fun lo1 h1 y0 y1 i1 m1 g0 g1 g2 e0 e1 => ?_)
  have I1 := I.nil hb i1 m1
  refine zcallR (mi := 261) (as := [.int y0, .int y1]) (rest := []) (q0 := 0) zv_kmv1 rfl (by decide) (shM i1) ?_
  refine (zLayM (d := d + 3) hb hT hO hB I1 hg e1 e0).mono (fun v h2 hv => ?_)
  obtain ⟨rfl, I2, hnm⟩ := hv
  refine kmV1 (d := d + 5) (by omega) hb g8 (bw := s 1 g) I2.1 w1 g0 g1 g2 (I2.2.2.2.1 g (by omega)).2.1 (fun lo3 h3 y2 y3 y4 y5 i3 m3 z0 z1 z2 z3 e2 e3 e4 e5 => ?_)
  have I3 := I2.nil hb i3 m3
  refine zcallR (mi := 261) (as := [.int y2, .int y3]) (rest := [.int y4, .int y5, .ref 30]) (q0 := 0) zv_kmv2 rfl (Nat.le_of_ble_eq_true rfl) (shM i3) ?_
  refine (zBndM (d := d) hb hT hB hn hO I3 hg (fun i hi => (pL_md m3 rfl).trans (hnm i hi)) (j := 2) (by decide) (w := 0) (by decide) e3 e2).mono (fun v h4 hv => ?_)
  obtain ⟨z, rfl, hz, I4⟩ := hv
  have c1 := (I4.2.2.2.1 g (by omega)).2.1
  have las : ∀ (lo5 : zL) (h5 : zH) (y6 y7 y8 : Int32), sInv swM h5 → sMd [] h4 h5 → zget lo5 0 = some (.ref 0) → y6.toInt = lsG (bdV (lwV N S 2 (nmS N o s g)) 0) (s 1 g) → y7.toInt = s 1 g → y8.toInt = 8 * (b : Int) + (g : Int) → zX l Γ false (d + 6) (zhd 261) (zMQ' Γ false (zhd 261) (fun r h' => r = none ∧ DI b N S o (wnG N S o s g) h0 h')) 0 0 35 lo5 [.int y6, .int y7, .int y8, .ref 30] h5 := fun lo5 h5 y6 y7 y8 i5 m5 g0 e6 e7 e8 => by
    refine kmV3 (d := d + 5) (by omega) hb g8 (y := lsG (bdV (lwV N S 2 (nmS N o s g)) 0) (s 1 g)) (b1 := s 1 g) i5 ⟨by omega, by omega⟩ w1 g0 e6 e7 e8 (by omega) (fun h6 i6 m6 v1 => ⟨rfl, ?_⟩)
    have M : sMd (kmV3_m b g) h4 h6 := (m5.sub rfl).seq m6
    exact I4.to hb i6 (M.sub (zall_r (zall_r kmV3_s hb) g8)) (MS.mk (I4.2.2.2.k0 M (fun j => smemc (by omega) smem0)) (upS (f := fun j => pI h6 30 (8 * b + j)) (s := s) (fun j hj hn => (pI_md M (smemc (by omega) smem0)).trans (I4.2.2.2.1 j hj).2.1) (v1.trans (by omega))) (I4.2.2.2.k2 M (fun j => smemc (by omega) smem0)) (I4.2.2.2.k3 M (fun j => smemc (by omega) smem0)) (I4.2.2.2.k4 M (fun j => smemc (by omega) smem0)) (I4.2.2.2.k5 M (fun j => smemc (by omega) smem0)) (I4.2.2.2.k6 M (smemc (by omega) smem0) (smemc (by omega) smem0) (smemc (by omega) smem0)))
  refine kmV2 (d := d + 5) (by omega) hb g8 (x := bdV (lwV N S 2 (nmS N o s g)) 0) (b1 := s 1 g) (bw := s 1 g) I4.1 fb w1 w1 z0 z3 hz e4 e5 c1 (fun lo5 h5 y6 y7 y8 i5 m5 e g0 e6 e7 e8 => ?_) (fun lo5 h5 y6 y7 y8 i5 m5 e g0 e6 e7 e8 => ?_)
  · exact las lo5 h5 y6 y7 y8 i5 m5 g0 (by omega) e7 e8
  · exact las lo5 h5 y6 y7 y8 i5 m5 g0 (by omega) e7 e8
theorem zv_kmw : zcvB 253 204 12 2 261 = true := by decide +kernel
theorem zWndML {l : Launch} {Γ : zG} {d b : Nat} (hb : b < 2) {Kp : Option Value → zH → Prop} {N : zN} {S : zS} {o : Nat → Int} {h0 : zH} (hT : TB N S) (hO : OB o) {n : Int} (hn : n ≤ 2000000000) : ∀ (m g : Nat) (lo : zL) (h : zH) (s : zSt), g + m = S 1 → SB n s → DI b N S o s h0 h → zget lo 0 = some (.ref 0) → zI lo 1 (b : Int) → zI lo 2 (g : Int) →
    (∀ lo' h', DI b N S o (if o 1 ≠ 1 ∧ s 6 0 % 10 = 9 then itG (wnG N S o) m g s else s) h0 h' → zget lo' 0 = some (.ref 0) → zI lo' 1 (b : Int) → zX l Γ false (d + 8) (zhd 253) (zMQ' Γ false (zhd 253) Kp) 0 0 213 lo' [] h') → zX l Γ false (d + 8) (zhd 253) (zMQ' Γ false (zhd 253) Kp) 0 0 172 lo [] h
  | 0, g, lo, h, s, hr, hB, I, l0, l1, l2, hE => by
    have b1 := hT.1.2.1
    refine kmW3 (d := d + 7) (by omega) hb (ri := (g : Int)) (n := (S 1 : Int)) I.1 ⟨by omega, by omega⟩ ⟨by omega, by omega⟩ l0 l1 l2 I.2.2.1.1.1.2.1 (by omega) (fun lo' h' i1 m1 g0 g1 g2 => hE lo' h' ?_ g0 g1)
    show DI b N S o (if _ then s else s) h0 h'
    rw [ite_self]
    exact I.nil hb i1 m1
  | m + 1, g, lo, h, s, hr, hB, I, l0, l1, l2, hE => by
    have b1 := hT.1.2.1
    have nw := I.2.2.1.2.2.2.2.1
    have mb := hB.2.2.1
    have c60 := I.2.2.2.2.2.1
    have ob : 0 ≤ (if o 1 = 1 then (1 : Int) else 0) ∧ (if o 1 = 1 then (1 : Int) else 0) ≤ 1 := by split <;> omega
    refine kmW1 (d := d + 7) (by omega) hb (ri := (g : Int)) (n := (S 1 : Int)) (m := s 6 0) (nw := if o 1 = 1 then 1 else 0) I.1 ⟨by omega, by omega⟩ ⟨by omega, by omega⟩ ⟨by omega, by omega⟩ ob l0 l1 l2 I.2.2.1.1.1.2.1 c60 nw (by omega) (fun lo' h' w0 y0 y1 i1 m1 e0 e1 e2 g0 g1 g2 hy0 hy1 => ?_) (fun lo' h' w0 i1 m1 e0 e1 e2 g0 g1 g2 => ?_) (fun lo' h' w0 i1 m1 e0 e1 g0 g1 g2 => ?_)
    · rw [sgd8 ⟨by omega, by omega⟩ (by decide)] at e0
      have o1 : o 1 ≠ 1 := fun c => by
        rw [if_pos c] at e2
        cases e2
      have I1 := I.nil hb i1 m1
      refine zcallR (mi := 253) (as := [.int y0, .int y1]) (rest := []) (q0 := 0) zv_kmw rfl (by decide) (shM i1) ?_
      refine (zWndM (d := d + 1) hb hT hO hB hn I1 (g := g) (by omega) hy1 hy0).mono (fun v h2 hv => ?_)
      obtain ⟨rfl, I2⟩ := hv
      refine kmW2 (d := d + 7) (by omega) hb (ri := (g : Int)) I2.1 ⟨by omega, by omega⟩ g0 g1 g2 (fun lo3 h3 i3 m3 z0 z1 z2 => ?_)
      refine zWndML hb hT hO hn m (g + 1) lo3 h3 (wnG N S o s g) (by omega) (wnG_b hB (by omega)) (I2.nil hb i3 m3) z0 z1 (by rw [Int.natCast_add]; exact z2) (fun lo4 h4 I4 x0 x1 => hE lo4 h4 ?_ x0 x1)
      rw [wnG_m] at I4
      have c : o 1 ≠ 1 ∧ s 6 0 % 10 = 9 := ⟨o1, by rw [← e0]; exact e1⟩
      rw [if_pos c] at I4 ⊢
      exact I4
    · refine hE lo' h' ?_ g0 g1
      rw [if_neg (fun c => e2 (if_neg c.1))]
      exact I.nil hb i1 m1
    · rw [sgd8 ⟨by omega, by omega⟩ (by decide)] at e0
      refine hE lo' h' ?_ g0 g1
      rw [if_neg (fun c => e1 (by rw [e0]; exact c.2))]
      exact I.nil hb i1 m1
/-! damp -/
theorem kmD_s : ((List.range 2).all fun b => (List.range 8).all fun g => ssubB (kmD2_m b g) (MM b) && ssubB kmDi_m (MM b)) = true := by decide
theorem zv_kmd : zcvB 253 138 12 0 257 = true := by decide +kernel
def dpM (N : zN) (o : Nat → Int) (s : zSt) (g : Nat) : zSt := if o 1 = 0 then s else dpG N o s g
theorem zDmpM {l : Launch} {Γ : zG} {d b : Nat} (hb : b < 2) {Kp : Option Value → zH → Prop} {N : zN} {S : zS} {o : Nat → Int} {h0 : zH} (hT : TB N S) (hO : OB o) {n : Int} : ∀ (m g : Nat) (lo : zL) (h : zH) (s : zSt), g + m = S 1 → SB n s → DI b N S o s h0 h → zget lo 0 = some (.ref 0) → zI lo 1 (b : Int) → zI lo 2 (g : Int) →
    (∀ lo' h', DI b N S o (itG (dpM N o) m g s) h0 h' → zget lo' 0 = some (.ref 0) → zI lo' 1 (b : Int) → zI lo' 2 0 → zX l Γ false (d + 3) (zhd 253) (zMQ' Γ false (zhd 253) Kp) 0 0 150 lo' [] h') → zX l Γ false (d + 3) (zhd 253) (zMQ' Γ false (zhd 253) Kp) 0 0 105 lo [] h
  | 0, g, lo, h, s, hr, hB, I, l0, l1, l2, hE => by
    have b1 := hT.1.2.1
    exact kmD3 (d := d + 2) (by omega) hb (ri := (g : Int)) (n := (S 1 : Int)) I.1 ⟨by omega, by omega⟩ ⟨by omega, by omega⟩ l0 l1 l2 I.2.2.1.1.1.2.1 (by omega) (fun lo' h' i1 m1 g0 g1 g2 => hE lo' h' (I.nil hb i1 m1) g0 g1 g2)
  | m + 1, g, lo, h, s, hr, hB, I, l0, l1, l2, hE => by
    have b1 := hT.1.2.1
    have g8 : g < 8 := by omega
    have c2 := (I.2.2.2.1 g (by omega)).2.2.1
    have w2 := (hB.1 g g8).2.2.1
    have db := hT.2.2.2.2.1
    have c62 := I.2.2.2.2.2.2.2
    obtain ⟨o0, o1, -⟩ := I.2.2.1.2.2
    have ss := zall_r (zall_r kmD_s hb) g8
    simp only [Bool.and_eq_true] at ss
    have dm : pI h 4 0 = N 14 0 := I.2.2.1.1.2.2.2.2.2.2.2.1
    have nx : ∀ (lo' : zL) (h' : zH) (s' : zSt), DI b N S o s' h0 h' → s' = dpM N o s g → SB n s' → zget lo' 0 = some (.ref 0) → zI lo' 1 (b : Int) → zI lo' 2 ((g : Int) + 1) → zX l Γ false (d + 3) (zhd 253) (zMQ' Γ false (zhd 253) Kp) 0 0 105 lo' [] h' := fun lo' h' s' I1 es B1 g0 g1 g2 =>
      zDmpM hb hT hO m (g + 1) lo' h' s' (by omega) B1 I1 g0 g1 (by rw [Int.natCast_add]; exact g2) (fun lo4 h' I' => hE lo4 h' (by
        show DI b N S o (itG (dpM N o) m (g + 1) (dpM N o s g)) h0 h'
        rw [← es]
        exact I'))
    refine kmD1 (d := d + 2) (by omega) hb g8 (n := (S 1 : Int)) (w := s 2 g) I.1 ⟨by omega, by omega⟩ ⟨by omega, by omega⟩ l0 l1 l2 I.2.2.1.1.1.2.1 c2 (fun lo' h' y1 i1 m1 e g0 g1 g2 hy1 => ?_) (fun lo' h' i1 m1 e g0 g1 g2 => ?_)
    · have I1 := I.nil hb i1 m1
      have k : ∀ q j, pI h' q j = pI h q j := fun q j => pI_md m1 rfl
      refine zcallR (mi := 253) (as := []) (rest := [.int y1, .ref 31]) (q0 := 0) zv_kmd rfl (Nat.le_of_ble_eq_true rfl) (shM i1) ?_
      -- behind the call
      have fin : ∀ (h2 : zH) (y : Int32) (v : Int) (n' : Int), sInv swM h2 → sMd kmDi_m h' h2 → y.toInt = v → (v = 0 ∨ v = 1) → pL h2 0 65 = n' → stS (stS s 6 2 n') 2 g v = dpM N o s g → zX l Γ false (d + 3) (zhd 253) (zMQ' Γ false (zhd 253) Kp) 0 0 (138 + 3) lo' ((some (.int y) : Option Value).toList ++ [.int y1, .ref 31]) h2 := fun h2 y v n' i2 m2 hy hv hn' es => by
        refine kmD2 (d := d + 2) (by omega) hb g8 (x := v) i2 ⟨by omega, by omega⟩ g0 g1 g2 hy hy1 (fun lo3 h3 i3 m3 k2 z0 z1 z2 => ?_)
        have C2 : MS S b (stS s 6 2 n') h2 := MS.mk (I1.2.2.2.k0 m2 (fun j => smemc (by omega) smem0)) (I1.2.2.2.k1 m2 (fun j => smemc (by omega) smem0)) (I1.2.2.2.k2 m2 (fun j => smemc (by omega) smem0)) (I1.2.2.2.k3 m2 (fun j => smemc (by omega) smem0)) (I1.2.2.2.k4 m2 (fun j => smemc (by omega) smem0)) (I1.2.2.2.k5 m2 (fun j => smemc (by omega) smem0)) ⟨(pI_md m2 (smemc (by omega) smem0)).trans I1.2.2.2.2.2.1, (pI_md m2 (smemc (by omega) smem0)).trans I1.2.2.2.2.2.2.1, hn'⟩
        have I2 : DI b N S o (stS s 6 2 n') h0 h2 := I1.to hb i2 (m2.sub ss.2) C2
        refine nx lo3 h3 (stS (stS s 6 2 n') 2 g v) (I2.to hb i3 (m3.sub ss.1) (MS.mk (C2.k0 m3 (fun j => smemc (by omega) smem0)) (C2.k1 m3 (fun j => smemc (by omega) smem0)) (upS (f := fun j => pI h3 31 (8 * b + j)) (s := stS s 6 2 n') (fun j hj hn => (pI_md m3 (smemc (by omega) smem0)).trans (C2.1 j hj).2.2.1) k2) (C2.k3 m3 (fun j => smemc (by omega) smem0)) (C2.k4 m3 (fun j => smemc (by omega) smem0)) (C2.k5 m3 (fun j => smemc (by omega) smem0)) (C2.k6 m3 (smemc (by omega) smem0) (smemc (by omega) smem0) (smemc (by omega) smem0)))) es (hB.s62.s2 hv) z0 z1 z2
      -- nothing comes of it
      have id0 : stS (stS s 6 2 (s 6 2)) 2 g 0 = s := by
        rw [stS_id (k := 2) (by rw [stS_n (fun c => absurd c.1 (by decide))]; exact e.symm), stS_id rfl]
      have id1 : stS (stS s 6 2 (s 6 2)) 2 g 1 = stS s 2 g 1 := by
        rw [stS_id (k := 6) rfl]
      have ne : s 2 g ≠ 1 := by omega
      have ob : 0 ≤ (if o 1 = 0 then (1 : Int) else 0) ∧ (if o 1 = 0 then (1 : Int) else 0) ≤ 1 := by split <;> omega
      have ob0 := hO.1
      refine kmDi (d := d + 1) (by omega) (nd := if o 1 = 0 then 1 else 0) (dm := N 14 0) (dr := o 0) (nu := s 6 2) i1 ob db ⟨by omega, by omega⟩ (i64e c62) ((k 0 67).trans o1) ((k 4 0).trans dm) ((k 0 66).trans o0) ((pL_md m1 rfl).trans c62) (fun h2 u0 r i2 m2 v0 v1 a1 a2 hr => ?_) (fun h2 u0 r i2 m2 v0 v1 a1 a2 a3 hr => ?_) (fun h2 u0 r i2 m2 v0 v1 a1 a2 a3 a4 a5 hr => ?_) (fun h2 u0 r i2 m2 v0 v1 a1 a2 a3 a4 a5 hr => ?_) (fun h2 w0 w1 w2 w3 w4 u0 r i2 m2 e0 e1 e2 e3 e4 v0 v1 a1 a2 a3 a4 a5 hr => ?_) (fun h2 w0 w1 w2 w3 w4 u0 r i2 m2 e0 e1 e2 e3 e4 v0 v1 a1 a2 a3 a4 a5 hr => ?_) (fun h2 u0 r i2 m2 v0 v1 a1 hr => ?_)
      · have n0 : ¬ o 1 = 0 := fun c => by rw [if_pos c] at a1; cases a1
        refine fin h2 r 0 (s 6 2) i2 m2 hr (Or.inl rfl) (v0.trans v1) ?_
        rw [id0]
        unfold dpM dpG
        rw [if_neg n0, if_neg ne, if_neg (by omega), if_neg (by omega)]
      · have n0 : ¬ o 1 = 0 := fun c => by rw [if_pos c] at a1; cases a1
        refine fin h2 r 1 (s 6 2) i2 m2 hr (Or.inr rfl) (v0.trans v1) ?_
        rw [id1]
        unfold dpM dpG
        rw [if_neg n0, if_neg ne, if_neg (by omega), if_pos (by omega)]
      · have n0 : ¬ o 1 = 0 := fun c => by rw [if_pos c] at a2; cases a2
        refine fin h2 r 0 (s 6 2) i2 m2 hr (Or.inl rfl) (v0.trans v1) ?_
        rw [id0]
        unfold dpM dpG
        rw [if_neg n0, if_neg ne, if_neg (by omega), if_neg (by omega)]
      · have n0 : ¬ o 1 = 0 := fun c => by rw [if_pos c] at a2; cases a2
        refine fin h2 r 1 (s 6 2) i2 m2 hr (Or.inr rfl) (v0.trans v1) ?_
        rw [id1]
        unfold dpM dpG
        rw [if_neg n0, if_neg ne, if_neg (by omega), if_pos (by omega)]
      · have n0 : ¬ o 1 = 0 := fun c => by rw [if_pos c] at a2; cases a2
        have ed := dwG_e e0 e1 e2
        rw [ed] at e3 v1
        have ec := dwG_r e3 e4
        rw [ec] at a1
        clear e0 e1 e2 e3 e4 ed ec
        generalize hd : dwG (s 6 2) = D at a1 v1
        have c1 : ¬ D / 65536 % 100 < N 14 0 := by omega
        have o01 : o 0 = 1 := by omega
        refine fin h2 r 0 D i2 m2 hr (Or.inl rfl) (v0.trans v1) ?_
        rw [stS_id (k := 2) (by rw [stS_n (fun c => absurd c.1 (by decide))]; exact e.symm)]
        unfold dpM dpG
        rw [hd, if_neg n0, if_neg ne, if_pos ⟨o01, by omega, by omega⟩, if_neg c1]
      · have n0 : ¬ o 1 = 0 := fun c => by rw [if_pos c] at a2; cases a2
        have ed := dwG_e e0 e1 e2
        rw [ed] at e3 v1
        have ec := dwG_r e3 e4
        rw [ec] at a1
        clear e0 e1 e2 e3 e4 ed ec
        generalize hd : dwG (s 6 2) = D at a1 v1
        have c1 : D / 65536 % 100 < N 14 0 := by omega
        have o01 : o 0 = 1 := by omega
        refine fin h2 r 1 D i2 m2 hr (Or.inr rfl) (v0.trans v1) ?_
        unfold dpM dpG
        rw [hd, if_neg n0, if_neg ne, if_pos ⟨o01, by omega, by omega⟩, if_pos c1]
      · have n0 : o 1 = 0 := Classical.byContradiction fun c => a1 (if_neg c)
        refine fin h2 r 0 (s 6 2) i2 m2 hr (Or.inl rfl) (v0.trans v1) ?_
        rw [id0]
        exact (if_pos n0).symm
    · refine nx lo' h' s (I.nil hb i1 m1) ?_ hB g0 g1 g2
      unfold dpM dpG
      rw [if_pos (show s 2 g = 1 from by omega), ite_self]
theorem dpM_n {N : zN} {o : Nat → Int} : ∀ (m g : Nat) (s : zSt), itG (dpM N o) m g s = if o 1 = 0 then s else itG (dpG N o) m g s
  | 0, _, _ => (ite_self _).symm
  | m + 1, g, s => by
    show itG (dpM N o) m (g + 1) (dpM N o s g) = if o 1 = 0 then s else itG (dpG N o) m (g + 1) (dpG N o s g)
    rw [dpM_n m (g + 1)]
    unfold dpM
    by_cases c : o 1 = 0
    · rw [if_pos c, if_pos c, if_pos c]
    · rw [if_neg c, if_neg c, if_neg c]
